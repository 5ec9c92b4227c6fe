def F12_isPea (σ : Mem)  : Bool :=
  (F12_isWord σ (F12_spelled 112 101 97 0 0 0))
set_option maxRecDepth 20000 in
theorem c12_isPea {l : Launch} {D : va_G} {ad : Nat → Nat → Nat → Nat} {cid : Nat → Nat → Nat → ClassId} (σ : Mem)  : AMF (XM l D ad cid) M12_isPea 1 eB [.ref (ad 12 0 0)] σ (some (F12_isPea σ, σ)) := by
  refine AM.ofW (by decide +kernel) (Nat.le_of_ble_eq_true rfl) (ls := [(0, .ref (ad 12 0 0))]) rfl ?_
  refine aw_entryT ?_
  unfold F12_isPea
  refine aw_aload_n 0 dX12_isPea_0 rfl rfl ?_
  refine aw_bipush 112 dX12_isPea_1 (by decide) ?_
  refine aw_bipush 101 dX12_isPea_3 (by decide) ?_
  refine aw_bipush 97 dX12_isPea_5 (by decide) ?_
  refine aw_iconst 0 dX12_isPea_7 (by decide) ?_
  refine aw_iconst 0 dX12_isPea_8 (by decide) ?_
  refine aw_iconst 0 dX12_isPea_9 (by decide) ?_
  refine aw_callST_L (c12_spelled σ 112 101 97 0 0 0) (by decide) mk_12_spelled w_1731 w_1730 rfl rfl (Nat.le_of_ble_eq_true rfl) dX12_isPea_10 ?_
  refine aw_callVT_B (c12_isWord σ (F12_spelled 112 101 97 0 0 0)) (io_12 (by decide)) ci_12 (by decide) mk_12_isWord w_1735 w_58 w_1733 rfl rfl (Nat.le_of_ble_eq_true rfl) dX12_isPea_13 ?_
  exact aw_zreturn (b := (F12_isWord σ (F12_spelled 112 101 97 0 0 0))) rfl rfl dX12_isPea_16
def F12_isSize (σ : Mem)  : Bool :=
  (F12_isWord σ (F12_spelled 115 105 122 101 0 0))
set_option maxRecDepth 20000 in
theorem c12_isSize {l : Launch} {D : va_G} {ad : Nat → Nat → Nat → Nat} {cid : Nat → Nat → Nat → ClassId} (σ : Mem)  : AMF (XM l D ad cid) M12_isSize 1 eB [.ref (ad 12 0 0)] σ (some (F12_isSize σ, σ)) := by
  refine AM.ofW (by decide +kernel) (Nat.le_of_ble_eq_true rfl) (ls := [(0, .ref (ad 12 0 0))]) rfl ?_
  refine aw_entryT ?_
  unfold F12_isSize
  refine aw_aload_n 0 dX12_isSize_0 rfl rfl ?_
  refine aw_bipush 115 dX12_isSize_1 (by decide) ?_
  refine aw_bipush 105 dX12_isSize_3 (by decide) ?_
  refine aw_bipush 122 dX12_isSize_5 (by decide) ?_
  refine aw_bipush 101 dX12_isSize_7 (by decide) ?_
  refine aw_iconst 0 dX12_isSize_9 (by decide) ?_
  refine aw_iconst 0 dX12_isSize_10 (by decide) ?_
  refine aw_callST_L (c12_spelled σ 115 105 122 101 0 0) (by decide) mk_12_spelled w_1731 w_1730 rfl rfl (Nat.le_of_ble_eq_true rfl) dX12_isSize_11 ?_
  refine aw_callVT_B (c12_isWord σ (F12_spelled 115 105 122 101 0 0)) (io_12 (by decide)) ci_12 (by decide) mk_12_isWord w_1735 w_58 w_1733 rfl rfl (Nat.le_of_ble_eq_true rfl) dX12_isSize_14 ?_
  exact aw_zreturn (b := (F12_isWord σ (F12_spelled 115 105 122 101 0 0))) rfl rfl dX12_isSize_17
def F12_isWeight (σ : Mem)  : Bool :=
  (F12_isWord σ (F12_spelled 119 101 105 103 104 116))
set_option maxRecDepth 20000 in
theorem c12_isWeight {l : Launch} {D : va_G} {ad : Nat → Nat → Nat → Nat} {cid : Nat → Nat → Nat → ClassId} (σ : Mem)  : AMF (XM l D ad cid) M12_isWeight 1 eB [.ref (ad 12 0 0)] σ (some (F12_isWeight σ, σ)) := by
  refine AM.ofW (by decide +kernel) (Nat.le_of_ble_eq_true rfl) (ls := [(0, .ref (ad 12 0 0))]) rfl ?_
  refine aw_entryT ?_
  unfold F12_isWeight
  refine aw_aload_n 0 dX12_isWeight_0 rfl rfl ?_
  refine aw_bipush 119 dX12_isWeight_1 (by decide) ?_
  refine aw_bipush 101 dX12_isWeight_3 (by decide) ?_
  refine aw_bipush 105 dX12_isWeight_5 (by decide) ?_
  refine aw_bipush 103 dX12_isWeight_7 (by decide) ?_
  refine aw_bipush 104 dX12_isWeight_9 (by decide) ?_
  refine aw_bipush 116 dX12_isWeight_11 (by decide) ?_
  refine aw_callST_L (c12_spelled σ 119 101 105 103 104 116) (by decide) mk_12_spelled w_1731 w_1730 rfl rfl (Nat.le_of_ble_eq_true rfl) dX12_isWeight_13 ?_
  refine aw_callVT_B (c12_isWord σ (F12_spelled 119 101 105 103 104 116)) (io_12 (by decide)) ci_12 (by decide) mk_12_isWord w_1735 w_58 w_1733 rfl rfl (Nat.le_of_ble_eq_true rfl) dX12_isWeight_16 ?_
  exact aw_zreturn (b := (F12_isWord σ (F12_spelled 119 101 105 103 104 116))) rfl rfl dX12_isWeight_19
def F12_isCrooked (σ : Mem)  : Bool :=
  (F12_isWord σ (((F12_spelled 99 114 111 111 107 101) * 32) + 4))
set_option maxRecDepth 20000 in
theorem c12_isCrooked {l : Launch} {D : va_G} {ad : Nat → Nat → Nat → Nat} {cid : Nat → Nat → Nat → ClassId} (σ : Mem)  : AMF (XM l D ad cid) M12_isCrooked 1 eB [.ref (ad 12 0 0)] σ (some (F12_isCrooked σ, σ)) := by
  refine AM.ofW (by decide +kernel) (Nat.le_of_ble_eq_true rfl) (ls := [(0, .ref (ad 12 0 0))]) rfl ?_
  refine aw_entryT ?_
  unfold F12_isCrooked
  refine aw_aload_n 0 dX12_isCrooked_0 rfl rfl ?_
  refine aw_bipush 99 dX12_isCrooked_1 (by decide) ?_
  refine aw_bipush 114 dX12_isCrooked_3 (by decide) ?_
  refine aw_bipush 111 dX12_isCrooked_5 (by decide) ?_
  refine aw_bipush 111 dX12_isCrooked_7 (by decide) ?_
  refine aw_bipush 107 dX12_isCrooked_9 (by decide) ?_
  refine aw_bipush 101 dX12_isCrooked_11 (by decide) ?_
  refine aw_callST_L (c12_spelled σ 99 114 111 111 107 101) (by decide) mk_12_spelled w_1731 w_1730 rfl rfl (Nat.le_of_ble_eq_true rfl) dX12_isCrooked_13 ?_
  refine aw_ldc2 w_1717 dX12_isCrooked_16 ?_
  refine aw_lmul dX12_isCrooked_19 ?_
  refine aw_ldc2 w_1828 dX12_isCrooked_20 ?_
  refine aw_ladd dX12_isCrooked_23 ?_
  refine aw_callVT_B (c12_isWord σ (((F12_spelled 99 114 111 111 107 101) * 32) + 4)) (io_12 (by decide)) ci_12 (by decide) mk_12_isWord w_1735 w_58 w_1733 rfl rfl (Nat.le_of_ble_eq_true rfl) dX12_isCrooked_24 ?_
  exact aw_zreturn (b := (F12_isWord σ (((F12_spelled 99 114 111 111 107 101) * 32) + 4))) rfl rfl dX12_isCrooked_27
def F12_isWet (σ : Mem)  : Bool :=
  (F12_isWord σ (F12_spelled 119 101 116 0 0 0))
set_option maxRecDepth 20000 in
theorem c12_isWet {l : Launch} {D : va_G} {ad : Nat → Nat → Nat → Nat} {cid : Nat → Nat → Nat → ClassId} (σ : Mem)  : AMF (XM l D ad cid) M12_isWet 1 eB [.ref (ad 12 0 0)] σ (some (F12_isWet σ, σ)) := by
  refine AM.ofW (by decide +kernel) (Nat.le_of_ble_eq_true rfl) (ls := [(0, .ref (ad 12 0 0))]) rfl ?_
  refine aw_entryT ?_
  unfold F12_isWet
  refine aw_aload_n 0 dX12_isWet_0 rfl rfl ?_
  refine aw_bipush 119 dX12_isWet_1 (by decide) ?_
  refine aw_bipush 101 dX12_isWet_3 (by decide) ?_
  refine aw_bipush 116 dX12_isWet_5 (by decide) ?_
  refine aw_iconst 0 dX12_isWet_7 (by decide) ?_
  refine aw_iconst 0 dX12_isWet_8 (by decide) ?_
  refine aw_iconst 0 dX12_isWet_9 (by decide) ?_
  refine aw_callST_L (c12_spelled σ 119 101 116 0 0 0) (by decide) mk_12_spelled w_1731 w_1730 rfl rfl (Nat.le_of_ble_eq_true rfl) dX12_isWet_10 ?_
  refine aw_callVT_B (c12_isWord σ (F12_spelled 119 101 116 0 0 0)) (io_12 (by decide)) ci_12 (by decide) mk_12_isWord w_1735 w_58 w_1733 rfl rfl (Nat.le_of_ble_eq_true rfl) dX12_isWet_13 ?_
  exact aw_zreturn (b := (F12_isWord σ (F12_spelled 119 101 116 0 0 0))) rfl rfl dX12_isWet_16
def F12_isShooter (σ : Mem)  : Bool :=
  (F12_isWord σ (((F12_spelled 115 104 111 111 116 101) * 32) + 18))
set_option maxRecDepth 20000 in
theorem c12_isShooter {l : Launch} {D : va_G} {ad : Nat → Nat → Nat → Nat} {cid : Nat → Nat → Nat → ClassId} (σ : Mem)  : AMF (XM l D ad cid) M12_isShooter 1 eB [.ref (ad 12 0 0)] σ (some (F12_isShooter σ, σ)) := by
  refine AM.ofW (by decide +kernel) (Nat.le_of_ble_eq_true rfl) (ls := [(0, .ref (ad 12 0 0))]) rfl ?_
  refine aw_entryT ?_
  unfold F12_isShooter
  refine aw_aload_n 0 dX12_isShooter_0 rfl rfl ?_
  refine aw_bipush 115 dX12_isShooter_1 (by decide) ?_
  refine aw_bipush 104 dX12_isShooter_3 (by decide) ?_
  refine aw_bipush 111 dX12_isShooter_5 (by decide) ?_
  refine aw_bipush 111 dX12_isShooter_7 (by decide) ?_
  refine aw_bipush 116 dX12_isShooter_9 (by decide) ?_
  refine aw_bipush 101 dX12_isShooter_11 (by decide) ?_
  refine aw_callST_L (c12_spelled σ 115 104 111 111 116 101) (by decide) mk_12_spelled w_1731 w_1730 rfl rfl (Nat.le_of_ble_eq_true rfl) dX12_isShooter_13 ?_
  refine aw_ldc2 w_1717 dX12_isShooter_16 ?_
  refine aw_lmul dX12_isShooter_19 ?_
  refine aw_ldc2 w_1837 dX12_isShooter_20 ?_
  refine aw_ladd dX12_isShooter_23 ?_
  refine aw_callVT_B (c12_isWord σ (((F12_spelled 115 104 111 111 116 101) * 32) + 18)) (io_12 (by decide)) ci_12 (by decide) mk_12_isWord w_1735 w_58 w_1733 rfl rfl (Nat.le_of_ble_eq_true rfl) dX12_isShooter_24 ?_
  exact aw_zreturn (b := (F12_isWord σ (((F12_spelled 115 104 111 111 116 101) * 32) + 18))) rfl rfl dX12_isShooter_27
def F12_isShake (σ : Mem)  : Bool :=
  (F12_isWord σ (F12_spelled 115 104 97 107 101 0))
set_option maxRecDepth 20000 in
theorem c12_isShake {l : Launch} {D : va_G} {ad : Nat → Nat → Nat → Nat} {cid : Nat → Nat → Nat → ClassId} (σ : Mem)  : AMF (XM l D ad cid) M12_isShake 1 eB [.ref (ad 12 0 0)] σ (some (F12_isShake σ, σ)) := by
  refine AM.ofW (by decide +kernel) (Nat.le_of_ble_eq_true rfl) (ls := [(0, .ref (ad 12 0 0))]) rfl ?_
  refine aw_entryT ?_
  unfold F12_isShake
  refine aw_aload_n 0 dX12_isShake_0 rfl rfl ?_
  refine aw_bipush 115 dX12_isShake_1 (by decide) ?_
  refine aw_bipush 104 dX12_isShake_3 (by decide) ?_
  refine aw_bipush 97 dX12_isShake_5 (by decide) ?_
  refine aw_bipush 107 dX12_isShake_7 (by decide) ?_
  refine aw_bipush 101 dX12_isShake_9 (by decide) ?_
  refine aw_iconst 0 dX12_isShake_11 (by decide) ?_
  refine aw_callST_L (c12_spelled σ 115 104 97 107 101 0) (by decide) mk_12_spelled w_1731 w_1730 rfl rfl (Nat.le_of_ble_eq_true rfl) dX12_isShake_12 ?_
  refine aw_callVT_B (c12_isWord σ (F12_spelled 115 104 97 107 101 0)) (io_12 (by decide)) ci_12 (by decide) mk_12_isWord w_1735 w_58 w_1733 rfl rfl (Nat.le_of_ble_eq_true rfl) dX12_isShake_15 ?_
  exact aw_zreturn (b := (F12_isWord σ (F12_spelled 115 104 97 107 101 0))) rfl rfl dX12_isShake_18
def F12_isLean (σ : Mem)  : Bool :=
  (F12_isWord σ (F12_spelled 108 101 97 110 0 0))
set_option maxRecDepth 20000 in
theorem c12_isLean {l : Launch} {D : va_G} {ad : Nat → Nat → Nat → Nat} {cid : Nat → Nat → Nat → ClassId} (σ : Mem)  : AMF (XM l D ad cid) M12_isLean 1 eB [.ref (ad 12 0 0)] σ (some (F12_isLean σ, σ)) := by
  refine AM.ofW (by decide +kernel) (Nat.le_of_ble_eq_true rfl) (ls := [(0, .ref (ad 12 0 0))]) rfl ?_
  refine aw_entryT ?_
  unfold F12_isLean
  refine aw_aload_n 0 dX12_isLean_0 rfl rfl ?_
  refine aw_bipush 108 dX12_isLean_1 (by decide) ?_
  refine aw_bipush 101 dX12_isLean_3 (by decide) ?_
  refine aw_bipush 97 dX12_isLean_5 (by decide) ?_
  refine aw_bipush 110 dX12_isLean_7 (by decide) ?_
  refine aw_iconst 0 dX12_isLean_9 (by decide) ?_
  refine aw_iconst 0 dX12_isLean_10 (by decide) ?_
  refine aw_callST_L (c12_spelled σ 108 101 97 110 0 0) (by decide) mk_12_spelled w_1731 w_1730 rfl rfl (Nat.le_of_ble_eq_true rfl) dX12_isLean_11 ?_
  refine aw_callVT_B (c12_isWord σ (F12_spelled 108 101 97 110 0 0)) (io_12 (by decide)) ci_12 (by decide) mk_12_isWord w_1735 w_58 w_1733 rfl rfl (Nat.le_of_ble_eq_true rfl) dX12_isLean_14 ?_
  exact aw_zreturn (b := (F12_isWord σ (F12_spelled 108 101 97 110 0 0))) rfl rfl dX12_isLean_17
def F12_isLow (σ : Mem)  : Bool :=
  (F12_isWord σ (F12_spelled 108 111 119 0 0 0))
set_option maxRecDepth 20000 in
theorem c12_isLow {l : Launch} {D : va_G} {ad : Nat → Nat → Nat → Nat} {cid : Nat → Nat → Nat → ClassId} (σ : Mem)  : AMF (XM l D ad cid) M12_isLow 1 eB [.ref (ad 12 0 0)] σ (some (F12_isLow σ, σ)) := by
  refine AM.ofW (by decide +kernel) (Nat.le_of_ble_eq_true rfl) (ls := [(0, .ref (ad 12 0 0))]) rfl ?_
  refine aw_entryT ?_
  unfold F12_isLow
  refine aw_aload_n 0 dX12_isLow_0 rfl rfl ?_
  refine aw_bipush 108 dX12_isLow_1 (by decide) ?_
  refine aw_bipush 111 dX12_isLow_3 (by decide) ?_
  refine aw_bipush 119 dX12_isLow_5 (by decide) ?_
  refine aw_iconst 0 dX12_isLow_7 (by decide) ?_
  refine aw_iconst 0 dX12_isLow_8 (by decide) ?_
  refine aw_iconst 0 dX12_isLow_9 (by decide) ?_
  refine aw_callST_L (c12_spelled σ 108 111 119 0 0 0) (by decide) mk_12_spelled w_1731 w_1730 rfl rfl (Nat.le_of_ble_eq_true rfl) dX12_isLow_10 ?_
  refine aw_callVT_B (c12_isWord σ (F12_spelled 108 111 119 0 0 0)) (io_12 (by decide)) ci_12 (by decide) mk_12_isWord w_1735 w_58 w_1733 rfl rfl (Nat.le_of_ble_eq_true rfl) dX12_isLow_13 ?_
  exact aw_zreturn (b := (F12_isWord σ (F12_spelled 108 111 119 0 0 0))) rfl rfl dX12_isLow_16
def F12_isPuff (σ : Mem)  : Bool :=
  (F12_isWord σ (F12_spelled 112 117 102 102 0 0))
set_option maxRecDepth 20000 in
theorem c12_isPuff {l : Launch} {D : va_G} {ad : Nat → Nat → Nat → Nat} {cid : Nat → Nat → Nat → ClassId} (σ : Mem)  : AMF (XM l D ad cid) M12_isPuff 1 eB [.ref (ad 12 0 0)] σ (some (F12_isPuff σ, σ)) := by
  refine AM.ofW (by decide +kernel) (Nat.le_of_ble_eq_true rfl) (ls := [(0, .ref (ad 12 0 0))]) rfl ?_
  refine aw_entryT ?_
  unfold F12_isPuff
  refine aw_aload_n 0 dX12_isPuff_0 rfl rfl ?_
  refine aw_bipush 112 dX12_isPuff_1 (by decide) ?_
  refine aw_bipush 117 dX12_isPuff_3 (by decide) ?_
  refine aw_bipush 102 dX12_isPuff_5 (by decide) ?_
  refine aw_bipush 102 dX12_isPuff_7 (by decide) ?_
  refine aw_iconst 0 dX12_isPuff_9 (by decide) ?_
  refine aw_iconst 0 dX12_isPuff_10 (by decide) ?_
  refine aw_callST_L (c12_spelled σ 112 117 102 102 0 0) (by decide) mk_12_spelled w_1731 w_1730 rfl rfl (Nat.le_of_ble_eq_true rfl) dX12_isPuff_11 ?_
  refine aw_callVT_B (c12_isWord σ (F12_spelled 112 117 102 102 0 0)) (io_12 (by decide)) ci_12 (by decide) mk_12_isWord w_1735 w_58 w_1733 rfl rfl (Nat.le_of_ble_eq_true rfl) dX12_isPuff_14 ?_
  exact aw_zreturn (b := (F12_isWord σ (F12_spelled 112 117 102 102 0 0))) rfl rfl dX12_isPuff_17
def F12_stepWord (σ : Mem)  : Int32 :=
  if (F12_isWord σ (F12_spelled 108 111 97 100 0 0)) = true then (0) else (if (F12_isWord σ (F12_spelled 97 105 109 0 0 0)) = true then (1) else (if (F12_isPuff σ) = true then (2) else (if (F12_isWord σ (F12_spelled 98 101 97 116 0 0)) = true then (3) else (if (F12_isWord σ (F12_spelled 115 104 111 111 116 0)) = true then (4) else (if (F12_isWord σ (F12_spelled 119 105 112 101 0 0)) = true then (5) else (if (F12_isWord σ (F12_spelled 110 101 120 116 0 0)) = true then (6) else (if (F12_isWord σ (F12_spelled 119 104 101 110 0 0)) = true then (7) else (if (F12_isWord σ (F12_spelled 108 111 111 112 0 0)) = true then (8) else (if (F12_isWord σ (F12_spelled 115 116 111 112 0 0)) = true then (9) else ((-1)))))))))))
set_option maxRecDepth 20000 in
theorem c12_stepWord {l : Launch} {D : va_G} {ad : Nat → Nat → Nat → Nat} {cid : Nat → Nat → Nat → ClassId} (σ : Mem)  : AMF (XM l D ad cid) M12_stepWord 2 eI [.ref (ad 12 0 0)] σ (some (F12_stepWord σ, σ)) := by
  refine AM.ofW (by decide +kernel) (Nat.le_of_ble_eq_true rfl) (ls := [(0, .ref (ad 12 0 0))]) rfl ?_
  refine aw_entryT ?_
  unfold F12_stepWord
  refine aw_aload_n 0 dX12_stepWord_0 rfl rfl ?_
  refine aw_bipush 108 dX12_stepWord_1 (by decide) ?_
  refine aw_bipush 111 dX12_stepWord_3 (by decide) ?_
  refine aw_bipush 97 dX12_stepWord_5 (by decide) ?_
  refine aw_bipush 100 dX12_stepWord_7 (by decide) ?_
  refine aw_iconst 0 dX12_stepWord_9 (by decide) ?_
  refine aw_iconst 0 dX12_stepWord_10 (by decide) ?_
  refine aw_callST_L (c12_spelled σ 108 111 97 100 0 0) (by decide) mk_12_spelled w_1731 w_1730 rfl rfl (Nat.le_of_ble_eq_true rfl) dX12_stepWord_11 ?_
  refine aw_callVT_B (c12_isWord σ (F12_spelled 108 111 97 100 0 0)) (io_12 (by decide)) ci_12 (by decide) mk_12_isWord w_1735 w_58 w_1733 rfl rfl (Nat.le_of_ble_eq_true rfl) dX12_stepWord_14 ?_
  refine aw_iteT ?_
  refine aw_bif_eq 22 dX12_stepWord_17 (by decide) ?_ ?_
  · refine aw_aload_n 0 dX12_stepWord_22 rfl rfl ?_
    refine aw_bipush 97 dX12_stepWord_23 (by decide) ?_
    refine aw_bipush 105 dX12_stepWord_25 (by decide) ?_
    refine aw_bipush 109 dX12_stepWord_27 (by decide) ?_
    refine aw_iconst 0 dX12_stepWord_29 (by decide) ?_
    refine aw_iconst 0 dX12_stepWord_30 (by decide) ?_
    refine aw_iconst 0 dX12_stepWord_31 (by decide) ?_
    refine aw_callST_L (c12_spelled σ 97 105 109 0 0 0) (by decide) mk_12_spelled w_1731 w_1730 rfl rfl (Nat.le_of_ble_eq_true rfl) dX12_stepWord_32 ?_
    refine aw_callVT_B (c12_isWord σ (F12_spelled 97 105 109 0 0 0)) (io_12 (by decide)) ci_12 (by decide) mk_12_isWord w_1735 w_58 w_1733 rfl rfl (Nat.le_of_ble_eq_true rfl) dX12_stepWord_35 ?_
    refine aw_iteT ?_
    refine aw_bif_eq 43 dX12_stepWord_38 (by decide) ?_ ?_
    · refine aw_aload_n 0 dX12_stepWord_43 rfl rfl ?_
      refine aw_callVT_B (c12_isPuff σ ) (io_12 (by decide)) ci_12 (by decide) mk_12_isPuff w_1856 w_87 w_1854 rfl rfl (Nat.le_of_ble_eq_true rfl) dX12_stepWord_44 ?_
      refine aw_iteT ?_
      refine aw_bif_eq 52 dX12_stepWord_47 (by decide) ?_ ?_
      · refine aw_aload_n 0 dX12_stepWord_52 rfl rfl ?_
        refine aw_bipush 98 dX12_stepWord_53 (by decide) ?_
        refine aw_bipush 101 dX12_stepWord_55 (by decide) ?_
        refine aw_bipush 97 dX12_stepWord_57 (by decide) ?_
        refine aw_bipush 116 dX12_stepWord_59 (by decide) ?_
        refine aw_iconst 0 dX12_stepWord_61 (by decide) ?_
        refine aw_iconst 0 dX12_stepWord_62 (by decide) ?_
        refine aw_callST_L (c12_spelled σ 98 101 97 116 0 0) (by decide) mk_12_spelled w_1731 w_1730 rfl rfl (Nat.le_of_ble_eq_true rfl) dX12_stepWord_63 ?_
        refine aw_callVT_B (c12_isWord σ (F12_spelled 98 101 97 116 0 0)) (io_12 (by decide)) ci_12 (by decide) mk_12_isWord w_1735 w_58 w_1733 rfl rfl (Nat.le_of_ble_eq_true rfl) dX12_stepWord_66 ?_
        refine aw_iteT ?_
        refine aw_bif_eq 74 dX12_stepWord_69 (by decide) ?_ ?_
        · refine aw_aload_n 0 dX12_stepWord_74 rfl rfl ?_
          refine aw_bipush 115 dX12_stepWord_75 (by decide) ?_
          refine aw_bipush 104 dX12_stepWord_77 (by decide) ?_
          refine aw_bipush 111 dX12_stepWord_79 (by decide) ?_
          refine aw_bipush 111 dX12_stepWord_81 (by decide) ?_
          refine aw_bipush 116 dX12_stepWord_83 (by decide) ?_
          refine aw_iconst 0 dX12_stepWord_85 (by decide) ?_
          refine aw_callST_L (c12_spelled σ 115 104 111 111 116 0) (by decide) mk_12_spelled w_1731 w_1730 rfl rfl (Nat.le_of_ble_eq_true rfl) dX12_stepWord_86 ?_
          refine aw_callVT_B (c12_isWord σ (F12_spelled 115 104 111 111 116 0)) (io_12 (by decide)) ci_12 (by decide) mk_12_isWord w_1735 w_58 w_1733 rfl rfl (Nat.le_of_ble_eq_true rfl) dX12_stepWord_89 ?_
          refine aw_iteT ?_
          refine aw_bif_eq 97 dX12_stepWord_92 (by decide) ?_ ?_
          · refine aw_aload_n 0 dX12_stepWord_97 rfl rfl ?_
            refine aw_bipush 119 dX12_stepWord_98 (by decide) ?_
            refine aw_bipush 105 dX12_stepWord_100 (by decide) ?_
            refine aw_bipush 112 dX12_stepWord_102 (by decide) ?_
            refine aw_bipush 101 dX12_stepWord_104 (by decide) ?_
            refine aw_iconst 0 dX12_stepWord_106 (by decide) ?_
            refine aw_iconst 0 dX12_stepWord_107 (by decide) ?_
            refine aw_callST_L (c12_spelled σ 119 105 112 101 0 0) (by decide) mk_12_spelled w_1731 w_1730 rfl rfl (Nat.le_of_ble_eq_true rfl) dX12_stepWord_108 ?_
            refine aw_callVT_B (c12_isWord σ (F12_spelled 119 105 112 101 0 0)) (io_12 (by decide)) ci_12 (by decide) mk_12_isWord w_1735 w_58 w_1733 rfl rfl (Nat.le_of_ble_eq_true rfl) dX12_stepWord_111 ?_
            refine aw_iteT ?_
            refine aw_bif_eq 119 dX12_stepWord_114 (by decide) ?_ ?_
            · refine aw_aload_n 0 dX12_stepWord_119 rfl rfl ?_
              refine aw_bipush 110 dX12_stepWord_120 (by decide) ?_
              refine aw_bipush 101 dX12_stepWord_122 (by decide) ?_
              refine aw_bipush 120 dX12_stepWord_124 (by decide) ?_
              refine aw_bipush 116 dX12_stepWord_126 (by decide) ?_
              refine aw_iconst 0 dX12_stepWord_128 (by decide) ?_
              refine aw_iconst 0 dX12_stepWord_129 (by decide) ?_
              refine aw_callST_L (c12_spelled σ 110 101 120 116 0 0) (by decide) mk_12_spelled w_1731 w_1730 rfl rfl (Nat.le_of_ble_eq_true rfl) dX12_stepWord_130 ?_
              refine aw_callVT_B (c12_isWord σ (F12_spelled 110 101 120 116 0 0)) (io_12 (by decide)) ci_12 (by decide) mk_12_isWord w_1735 w_58 w_1733 rfl rfl (Nat.le_of_ble_eq_true rfl) dX12_stepWord_133 ?_
              refine aw_iteT ?_
              refine aw_bif_eq 142 dX12_stepWord_136 (by decide) ?_ ?_
              · refine aw_aload_n 0 dX12_stepWord_142 rfl rfl ?_
                refine aw_bipush 119 dX12_stepWord_143 (by decide) ?_
                refine aw_bipush 104 dX12_stepWord_145 (by decide) ?_
                refine aw_bipush 101 dX12_stepWord_147 (by decide) ?_
                refine aw_bipush 110 dX12_stepWord_149 (by decide) ?_
                refine aw_iconst 0 dX12_stepWord_151 (by decide) ?_
                refine aw_iconst 0 dX12_stepWord_152 (by decide) ?_
                refine aw_callST_L (c12_spelled σ 119 104 101 110 0 0) (by decide) mk_12_spelled w_1731 w_1730 rfl rfl (Nat.le_of_ble_eq_true rfl) dX12_stepWord_153 ?_
                refine aw_callVT_B (c12_isWord σ (F12_spelled 119 104 101 110 0 0)) (io_12 (by decide)) ci_12 (by decide) mk_12_isWord w_1735 w_58 w_1733 rfl rfl (Nat.le_of_ble_eq_true rfl) dX12_stepWord_156 ?_
                refine aw_iteT ?_
                refine aw_bif_eq 165 dX12_stepWord_159 (by decide) ?_ ?_
                · refine aw_aload_n 0 dX12_stepWord_165 rfl rfl ?_
                  refine aw_bipush 108 dX12_stepWord_166 (by decide) ?_
                  refine aw_bipush 111 dX12_stepWord_168 (by decide) ?_
                  refine aw_bipush 111 dX12_stepWord_170 (by decide) ?_
                  refine aw_bipush 112 dX12_stepWord_172 (by decide) ?_
                  refine aw_iconst 0 dX12_stepWord_174 (by decide) ?_
                  refine aw_iconst 0 dX12_stepWord_175 (by decide) ?_
                  refine aw_callST_L (c12_spelled σ 108 111 111 112 0 0) (by decide) mk_12_spelled w_1731 w_1730 rfl rfl (Nat.le_of_ble_eq_true rfl) dX12_stepWord_176 ?_
                  refine aw_callVT_B (c12_isWord σ (F12_spelled 108 111 111 112 0 0)) (io_12 (by decide)) ci_12 (by decide) mk_12_isWord w_1735 w_58 w_1733 rfl rfl (Nat.le_of_ble_eq_true rfl) dX12_stepWord_179 ?_
                  refine aw_iteT ?_
                  refine aw_bif_eq 188 dX12_stepWord_182 (by decide) ?_ ?_
                  · refine aw_aload_n 0 dX12_stepWord_188 rfl rfl ?_
                    refine aw_bipush 115 dX12_stepWord_189 (by decide) ?_
                    refine aw_bipush 116 dX12_stepWord_191 (by decide) ?_
                    refine aw_bipush 111 dX12_stepWord_193 (by decide) ?_
                    refine aw_bipush 112 dX12_stepWord_195 (by decide) ?_
                    refine aw_iconst 0 dX12_stepWord_197 (by decide) ?_
                    refine aw_iconst 0 dX12_stepWord_198 (by decide) ?_
                    refine aw_callST_L (c12_spelled σ 115 116 111 112 0 0) (by decide) mk_12_spelled w_1731 w_1730 rfl rfl (Nat.le_of_ble_eq_true rfl) dX12_stepWord_199 ?_
                    refine aw_callVT_B (c12_isWord σ (F12_spelled 115 116 111 112 0 0)) (io_12 (by decide)) ci_12 (by decide) mk_12_isWord w_1735 w_58 w_1733 rfl rfl (Nat.le_of_ble_eq_true rfl) dX12_stepWord_202 ?_
                    refine aw_iteT ?_
                    refine aw_bif_eq 213 dX12_stepWord_205 (by decide) ?_ ?_
                    · refine aw_iconst (-1) dX12_stepWord_213 (by decide) ?_
                      exact aw_ireturn rfl dX12_stepWord_214
                    · refine aw_bipush 9 dX12_stepWord_208 (by decide) ?_
                      refine aw_goto 214 dX12_stepWord_210 (by decide) ?_
                      exact aw_ireturn rfl dX12_stepWord_214
                  · refine aw_bipush 8 dX12_stepWord_185 (by decide) ?_
                    exact aw_ireturn rfl dX12_stepWord_187
                · refine aw_bipush 7 dX12_stepWord_162 (by decide) ?_
                  exact aw_ireturn rfl dX12_stepWord_164
              · refine aw_bipush 6 dX12_stepWord_139 (by decide) ?_
                exact aw_ireturn rfl dX12_stepWord_141
            · refine aw_iconst 5 dX12_stepWord_117 (by decide) ?_
              exact aw_ireturn rfl dX12_stepWord_118
          · refine aw_iconst 4 dX12_stepWord_95 (by decide) ?_
            exact aw_ireturn rfl dX12_stepWord_96
        · refine aw_iconst 3 dX12_stepWord_72 (by decide) ?_
          exact aw_ireturn rfl dX12_stepWord_73
      · refine aw_iconst 2 dX12_stepWord_50 (by decide) ?_
        exact aw_ireturn rfl dX12_stepWord_51
    · refine aw_iconst 1 dX12_stepWord_41 (by decide) ?_
      exact aw_ireturn rfl dX12_stepWord_42
  · refine aw_iconst 0 dX12_stepWord_20 (by decide) ?_
    exact aw_ireturn rfl dX12_stepWord_21
def F12_testWord (σ : Mem)  : Int32 :=
  if (F12_isWord σ (F12_spelled 115 99 111 114 101 0)) = true then (0) else (if (F12_isWord σ (F12_spelled 104 111 108 101 115 0)) = true then (1) else (if (F12_isWord σ (F12_spelled 115 112 105 116 0 0)) = true then (2) else ((-1))))
set_option maxRecDepth 20000 in
theorem c12_testWord {l : Launch} {D : va_G} {ad : Nat → Nat → Nat → Nat} {cid : Nat → Nat → Nat → ClassId} (σ : Mem)  : AMF (XM l D ad cid) M12_testWord 1 eI [.ref (ad 12 0 0)] σ (some (F12_testWord σ, σ)) := by
  refine AM.ofW (by decide +kernel) (Nat.le_of_ble_eq_true rfl) (ls := [(0, .ref (ad 12 0 0))]) rfl ?_
  refine aw_entryT ?_
  unfold F12_testWord
  refine aw_aload_n 0 dX12_testWord_0 rfl rfl ?_
  refine aw_bipush 115 dX12_testWord_1 (by decide) ?_
  refine aw_bipush 99 dX12_testWord_3 (by decide) ?_
  refine aw_bipush 111 dX12_testWord_5 (by decide) ?_
  refine aw_bipush 114 dX12_testWord_7 (by decide) ?_
  refine aw_bipush 101 dX12_testWord_9 (by decide) ?_
  refine aw_iconst 0 dX12_testWord_11 (by decide) ?_
  refine aw_callST_L (c12_spelled σ 115 99 111 114 101 0) (by decide) mk_12_spelled w_1731 w_1730 rfl rfl (Nat.le_of_ble_eq_true rfl) dX12_testWord_12 ?_
  refine aw_callVT_B (c12_isWord σ (F12_spelled 115 99 111 114 101 0)) (io_12 (by decide)) ci_12 (by decide) mk_12_isWord w_1735 w_58 w_1733 rfl rfl (Nat.le_of_ble_eq_true rfl) dX12_testWord_15 ?_
  refine aw_iteT ?_
  refine aw_bif_eq 23 dX12_testWord_18 (by decide) ?_ ?_
  · refine aw_aload_n 0 dX12_testWord_23 rfl rfl ?_
    refine aw_bipush 104 dX12_testWord_24 (by decide) ?_
    refine aw_bipush 111 dX12_testWord_26 (by decide) ?_
    refine aw_bipush 108 dX12_testWord_28 (by decide) ?_
    refine aw_bipush 101 dX12_testWord_30 (by decide) ?_
    refine aw_bipush 115 dX12_testWord_32 (by decide) ?_
    refine aw_iconst 0 dX12_testWord_34 (by decide) ?_
    refine aw_callST_L (c12_spelled σ 104 111 108 101 115 0) (by decide) mk_12_spelled w_1731 w_1730 rfl rfl (Nat.le_of_ble_eq_true rfl) dX12_testWord_35 ?_
    refine aw_callVT_B (c12_isWord σ (F12_spelled 104 111 108 101 115 0)) (io_12 (by decide)) ci_12 (by decide) mk_12_isWord w_1735 w_58 w_1733 rfl rfl (Nat.le_of_ble_eq_true rfl) dX12_testWord_38 ?_
    refine aw_iteT ?_
    refine aw_bif_eq 46 dX12_testWord_41 (by decide) ?_ ?_
    · refine aw_aload_n 0 dX12_testWord_46 rfl rfl ?_
      refine aw_bipush 115 dX12_testWord_47 (by decide) ?_
      refine aw_bipush 112 dX12_testWord_49 (by decide) ?_
      refine aw_bipush 105 dX12_testWord_51 (by decide) ?_
      refine aw_bipush 116 dX12_testWord_53 (by decide) ?_
      refine aw_iconst 0 dX12_testWord_55 (by decide) ?_
      refine aw_iconst 0 dX12_testWord_56 (by decide) ?_
      refine aw_callST_L (c12_spelled σ 115 112 105 116 0 0) (by decide) mk_12_spelled w_1731 w_1730 rfl rfl (Nat.le_of_ble_eq_true rfl) dX12_testWord_57 ?_
      refine aw_callVT_B (c12_isWord σ (F12_spelled 115 112 105 116 0 0)) (io_12 (by decide)) ci_12 (by decide) mk_12_isWord w_1735 w_58 w_1733 rfl rfl (Nat.le_of_ble_eq_true rfl) dX12_testWord_60 ?_
      refine aw_iteT ?_
      refine aw_bif_eq 70 dX12_testWord_63 (by decide) ?_ ?_
      · refine aw_iconst (-1) dX12_testWord_70 (by decide) ?_
        exact aw_ireturn rfl dX12_testWord_71
      · refine aw_iconst 2 dX12_testWord_66 (by decide) ?_
        refine aw_goto 71 dX12_testWord_67 (by decide) ?_
        exact aw_ireturn rfl dX12_testWord_71
    · refine aw_iconst 1 dX12_testWord_44 (by decide) ?_
      exact aw_ireturn rfl dX12_testWord_45
  · refine aw_iconst 0 dX12_testWord_21 (by decide) ?_
    exact aw_ireturn rfl dX12_testWord_22
def F12_isEnd (σ : Mem)  : Bool :=
  (F12_isWord σ (F12_spelled 101 110 100 0 0 0))
set_option maxRecDepth 20000 in
theorem c12_isEnd {l : Launch} {D : va_G} {ad : Nat → Nat → Nat → Nat} {cid : Nat → Nat → Nat → ClassId} (σ : Mem)  : AMF (XM l D ad cid) M12_isEnd 1 eB [.ref (ad 12 0 0)] σ (some (F12_isEnd σ, σ)) := by
  refine AM.ofW (by decide +kernel) (Nat.le_of_ble_eq_true rfl) (ls := [(0, .ref (ad 12 0 0))]) rfl ?_
  refine aw_entryT ?_
  unfold F12_isEnd
  refine aw_aload_n 0 dX12_isEnd_0 rfl rfl ?_
  refine aw_bipush 101 dX12_isEnd_1 (by decide) ?_
  refine aw_bipush 110 dX12_isEnd_3 (by decide) ?_
  refine aw_bipush 100 dX12_isEnd_5 (by decide) ?_
  refine aw_iconst 0 dX12_isEnd_7 (by decide) ?_
  refine aw_iconst 0 dX12_isEnd_8 (by decide) ?_
  refine aw_iconst 0 dX12_isEnd_9 (by decide) ?_
  refine aw_callST_L (c12_spelled σ 101 110 100 0 0 0) (by decide) mk_12_spelled w_1731 w_1730 rfl rfl (Nat.le_of_ble_eq_true rfl) dX12_isEnd_10 ?_
  refine aw_callVT_B (c12_isWord σ (F12_spelled 101 110 100 0 0 0)) (io_12 (by decide)) ci_12 (by decide) mk_12_isWord w_1735 w_58 w_1733 rfl rfl (Nat.le_of_ble_eq_true rfl) dX12_isEnd_13 ?_
  exact aw_zreturn (b := (F12_isWord σ (F12_spelled 101 110 100 0 0 0))) rfl rfl dX12_isEnd_16
def F12_isKept (σ : Mem)  : Bool :=
  if (F12_isTube σ) = true then (true) else (if (F12_isBore σ) = true then (true) else (if (F12_isFar σ) = true then (true) else (if (F12_isWind σ) = true then (true) else (if (F12_isLeft σ) = true then (true) else (if (F12_isRing σ) = true then (true) else (if (F12_isWorth σ) = true then (true) else (if (F12_isPea σ) = true then (true) else (if (F12_isSize σ) = true then (true) else (if (F12_isWeight σ) = true then (true) else (if (F12_isCrooked σ) = true then (true) else (if (F12_isWet σ) = true then (true) else (if (F12_isShooter σ) = true then (true) else (if (F12_isShake σ) = true then (true) else (if (F12_isLean σ) = true then (true) else (if (F12_isLow σ) = true then (true) else (if 0 ≤ (F12_stepWord σ) then (true) else (if 0 ≤ (F12_testWord σ) then (true) else (if (F12_isEnd σ) = true then (true) else (false)))))))))))))))))))
set_option maxRecDepth 20000 in
theorem c12_isKept {l : Launch} {D : va_G} {ad : Nat → Nat → Nat → Nat} {cid : Nat → Nat → Nat → ClassId} (σ : Mem)  : AMF (XM l D ad cid) M12_isKept 3 eB [.ref (ad 12 0 0)] σ (some (F12_isKept σ, σ)) := by
  refine AM.ofW (by decide +kernel) (Nat.le_of_ble_eq_true rfl) (ls := [(0, .ref (ad 12 0 0))]) rfl ?_
  refine aw_entryT ?_
  unfold F12_isKept
  refine aw_aload_n 0 dX12_isKept_0 rfl rfl ?_
  refine aw_callVT_B (c12_isTube σ ) (io_12 (by decide)) ci_12 (by decide) mk_12_isTube w_1728 w_57 w_1726 rfl rfl (Nat.le_of_ble_eq_true rfl) dX12_isKept_1 ?_
  refine aw_iteT ?_
  refine aw_bif_ne 84 dX12_isKept_4 (by decide) ?_ ?_
  · refine aw_iconst 1 dX12_isKept_84 (by decide) ?_
    exact aw_zreturn (b := true) rfl rfl dX12_isKept_85
  · refine aw_aload_n 0 dX12_isKept_7 rfl rfl ?_
    refine aw_callVT_B (c12_isBore σ ) (io_12 (by decide)) ci_12 (by decide) mk_12_isBore w_1758 w_63 w_1756 rfl rfl (Nat.le_of_ble_eq_true rfl) dX12_isKept_8 ?_
    refine aw_iteT ?_
    refine aw_bif_ne 84 dX12_isKept_11 (by decide) ?_ ?_
    · refine aw_iconst 1 dX12_isKept_84 (by decide) ?_
      exact aw_zreturn (b := true) rfl rfl dX12_isKept_85
    · refine aw_aload_n 0 dX12_isKept_14 rfl rfl ?_
      refine aw_callVT_B (c12_isFar σ ) (io_12 (by decide)) ci_12 (by decide) mk_12_isFar w_1766 w_65 w_1764 rfl rfl (Nat.le_of_ble_eq_true rfl) dX12_isKept_15 ?_
      refine aw_iteT ?_
      refine aw_bif_ne 84 dX12_isKept_18 (by decide) ?_ ?_
      · refine aw_iconst 1 dX12_isKept_84 (by decide) ?_
        exact aw_zreturn (b := true) rfl rfl dX12_isKept_85
      · refine aw_aload_n 0 dX12_isKept_21 rfl rfl ?_
        refine aw_callVT_B (c12_isWind σ ) (io_12 (by decide)) ci_12 (by decide) mk_12_isWind w_1774 w_67 w_1772 rfl rfl (Nat.le_of_ble_eq_true rfl) dX12_isKept_22 ?_
        refine aw_iteT ?_
        refine aw_bif_ne 84 dX12_isKept_25 (by decide) ?_ ?_
        · refine aw_iconst 1 dX12_isKept_84 (by decide) ?_
          exact aw_zreturn (b := true) rfl rfl dX12_isKept_85
        · refine aw_aload_n 0 dX12_isKept_28 rfl rfl ?_
          refine aw_callVT_B (c12_isLeft σ ) (io_12 (by decide)) ci_12 (by decide) mk_12_isLeft w_1782 w_69 w_1780 rfl rfl (Nat.le_of_ble_eq_true rfl) dX12_isKept_29 ?_
          refine aw_iteT ?_
          refine aw_bif_ne 84 dX12_isKept_32 (by decide) ?_ ?_
          · refine aw_iconst 1 dX12_isKept_84 (by decide) ?_
            exact aw_zreturn (b := true) rfl rfl dX12_isKept_85
          · refine aw_aload_n 0 dX12_isKept_35 rfl rfl ?_
            refine aw_callVT_B (c12_isRing σ ) (io_12 (by decide)) ci_12 (by decide) mk_12_isRing w_1786 w_70 w_1784 rfl rfl (Nat.le_of_ble_eq_true rfl) dX12_isKept_36 ?_
            refine aw_iteT ?_
            refine aw_bif_ne 84 dX12_isKept_39 (by decide) ?_ ?_
            · refine aw_iconst 1 dX12_isKept_84 (by decide) ?_
              exact aw_zreturn (b := true) rfl rfl dX12_isKept_85
            · refine aw_aload_n 0 dX12_isKept_42 rfl rfl ?_
              refine aw_callVT_B (c12_isWorth σ ) (io_12 (by decide)) ci_12 (by decide) mk_12_isWorth w_1794 w_72 w_1792 rfl rfl (Nat.le_of_ble_eq_true rfl) dX12_isKept_43 ?_
              refine aw_iteT ?_
              refine aw_bif_ne 84 dX12_isKept_46 (by decide) ?_ ?_
              · refine aw_iconst 1 dX12_isKept_84 (by decide) ?_
                exact aw_zreturn (b := true) rfl rfl dX12_isKept_85
              · refine aw_aload_n 0 dX12_isKept_49 rfl rfl ?_
                refine aw_callVT_B (c12_isPea σ ) (io_12 (by decide)) ci_12 (by decide) mk_12_isPea w_1798 w_73 w_1796 rfl rfl (Nat.le_of_ble_eq_true rfl) dX12_isKept_50 ?_
                refine aw_iteT ?_
                refine aw_bif_ne 84 dX12_isKept_53 (by decide) ?_ ?_
                · refine aw_iconst 1 dX12_isKept_84 (by decide) ?_
                  exact aw_zreturn (b := true) rfl rfl dX12_isKept_85
                · refine aw_aload_n 0 dX12_isKept_56 rfl rfl ?_
                  refine aw_callVT_B (c12_isSize σ ) (io_12 (by decide)) ci_12 (by decide) mk_12_isSize w_1818 w_78 w_1816 rfl rfl (Nat.le_of_ble_eq_true rfl) dX12_isKept_57 ?_
                  refine aw_iteT ?_
                  refine aw_bif_ne 84 dX12_isKept_60 (by decide) ?_ ?_
                  · refine aw_iconst 1 dX12_isKept_84 (by decide) ?_
                    exact aw_zreturn (b := true) rfl rfl dX12_isKept_85
                  · refine aw_aload_n 0 dX12_isKept_63 rfl rfl ?_
                    refine aw_callVT_B (c12_isWeight σ ) (io_12 (by decide)) ci_12 (by decide) mk_12_isWeight w_1822 w_79 w_1820 rfl rfl (Nat.le_of_ble_eq_true rfl) dX12_isKept_64 ?_
                    refine aw_iteT ?_
                    refine aw_bif_ne 84 dX12_isKept_67 (by decide) ?_ ?_
                    · refine aw_iconst 1 dX12_isKept_84 (by decide) ?_
                      exact aw_zreturn (b := true) rfl rfl dX12_isKept_85
                    · refine aw_aload_n 0 dX12_isKept_70 rfl rfl ?_
                      refine aw_callVT_B (c12_isCrooked σ ) (io_12 (by decide)) ci_12 (by decide) mk_12_isCrooked w_1826 w_80 w_1824 rfl rfl (Nat.le_of_ble_eq_true rfl) dX12_isKept_71 ?_
                      refine aw_iteT ?_
                      refine aw_bif_ne 84 dX12_isKept_74 (by decide) ?_ ?_
                      · refine aw_iconst 1 dX12_isKept_84 (by decide) ?_
                        exact aw_zreturn (b := true) rfl rfl dX12_isKept_85
                      · refine aw_aload_n 0 dX12_isKept_77 rfl rfl ?_
                        refine aw_callVT_B (c12_isWet σ ) (io_12 (by decide)) ci_12 (by decide) mk_12_isWet w_1831 w_81 w_1829 rfl rfl (Nat.le_of_ble_eq_true rfl) dX12_isKept_78 ?_
                        refine aw_iteT ?_
                        refine aw_bif_eq 86 dX12_isKept_81 (by decide) ?_ ?_
                        · refine aw_aload_n 0 dX12_isKept_86 rfl rfl ?_
                          refine aw_callVT_B (c12_isShooter σ ) (io_12 (by decide)) ci_12 (by decide) mk_12_isShooter w_1835 w_82 w_1833 rfl rfl (Nat.le_of_ble_eq_true rfl) dX12_isKept_87 ?_
                          refine aw_iteT ?_
                          refine aw_bif_ne 135 dX12_isKept_90 (by decide) ?_ ?_
                          · refine aw_iconst 1 dX12_isKept_135 (by decide) ?_
                            refine aw_goto 140 dX12_isKept_136 (by decide) ?_
                            exact aw_zreturn (b := true) rfl rfl dX12_isKept_140
                          · refine aw_aload_n 0 dX12_isKept_93 rfl rfl ?_
                            refine aw_callVT_B (c12_isShake σ ) (io_12 (by decide)) ci_12 (by decide) mk_12_isShake w_1840 w_83 w_1838 rfl rfl (Nat.le_of_ble_eq_true rfl) dX12_isKept_94 ?_
                            refine aw_iteT ?_
                            refine aw_bif_ne 135 dX12_isKept_97 (by decide) ?_ ?_
                            · refine aw_iconst 1 dX12_isKept_135 (by decide) ?_
                              refine aw_goto 140 dX12_isKept_136 (by decide) ?_
                              exact aw_zreturn (b := true) rfl rfl dX12_isKept_140
                            · refine aw_aload_n 0 dX12_isKept_100 rfl rfl ?_
                              refine aw_callVT_B (c12_isLean σ ) (io_12 (by decide)) ci_12 (by decide) mk_12_isLean w_1844 w_84 w_1842 rfl rfl (Nat.le_of_ble_eq_true rfl) dX12_isKept_101 ?_
                              refine aw_iteT ?_
                              refine aw_bif_ne 135 dX12_isKept_104 (by decide) ?_ ?_
                              · refine aw_iconst 1 dX12_isKept_135 (by decide) ?_
                                refine aw_goto 140 dX12_isKept_136 (by decide) ?_
                                exact aw_zreturn (b := true) rfl rfl dX12_isKept_140
                              · refine aw_aload_n 0 dX12_isKept_107 rfl rfl ?_
                                refine aw_callVT_B (c12_isLow σ ) (io_12 (by decide)) ci_12 (by decide) mk_12_isLow w_1848 w_85 w_1846 rfl rfl (Nat.le_of_ble_eq_true rfl) dX12_isKept_108 ?_
                                refine aw_iteT ?_
                                refine aw_bif_ne 135 dX12_isKept_111 (by decide) ?_ ?_
                                · refine aw_iconst 1 dX12_isKept_135 (by decide) ?_
                                  refine aw_goto 140 dX12_isKept_136 (by decide) ?_
                                  exact aw_zreturn (b := true) rfl rfl dX12_isKept_140
                                · refine aw_aload_n 0 dX12_isKept_114 rfl rfl ?_
                                  refine aw_callVT_I (c12_stepWord σ ) (io_12 (by decide)) ci_12 (by decide) mk_12_stepWord w_1852 w_86 w_1850 rfl rfl (Nat.le_of_ble_eq_true rfl) dX12_isKept_115 ?_
                                  refine aw_iteT ?_
                                  refine aw_if_ge 135 dX12_isKept_118 (by decide) ?_ ?_
                                  · refine aw_iconst 1 dX12_isKept_135 (by decide) ?_
                                    refine aw_goto 140 dX12_isKept_136 (by decide) ?_
                                    exact aw_zreturn (b := true) rfl rfl dX12_isKept_140
                                  · refine aw_aload_n 0 dX12_isKept_121 rfl rfl ?_
                                    refine aw_callVT_I (c12_testWord σ ) (io_12 (by decide)) ci_12 (by decide) mk_12_testWord w_1860 w_88 w_1858 rfl rfl (Nat.le_of_ble_eq_true rfl) dX12_isKept_122 ?_
                                    refine aw_iteT ?_
                                    refine aw_if_ge 135 dX12_isKept_125 (by decide) ?_ ?_
                                    · refine aw_iconst 1 dX12_isKept_135 (by decide) ?_
                                      refine aw_goto 140 dX12_isKept_136 (by decide) ?_
                                      exact aw_zreturn (b := true) rfl rfl dX12_isKept_140
                                    · refine aw_aload_n 0 dX12_isKept_128 rfl rfl ?_
                                      refine aw_callVT_B (c12_isEnd σ ) (io_12 (by decide)) ci_12 (by decide) mk_12_isEnd w_1864 w_89 w_1862 rfl rfl (Nat.le_of_ble_eq_true rfl) dX12_isKept_129 ?_
                                      refine aw_iteT ?_
                                      refine aw_bif_eq 139 dX12_isKept_132 (by decide) ?_ ?_
                                      · refine aw_iconst 0 dX12_isKept_139 (by decide) ?_
                                        exact aw_zreturn (b := false) rfl rfl dX12_isKept_140
                                      · refine aw_iconst 1 dX12_isKept_135 (by decide) ?_
                                        refine aw_goto 140 dX12_isKept_136 (by decide) ?_
                                        exact aw_zreturn (b := true) rfl rfl dX12_isKept_140
                        · refine aw_iconst 1 dX12_isKept_84 (by decide) ?_
                          exact aw_zreturn (b := true) rfl rfl dX12_isKept_85
def F12_isName (σ : Mem)  : Bool :=
  if (gI σ 12 0 0 14) = 1 then (if 8 < (gI σ 12 0 0 18) then (false) else (if (F12_isKept σ) = true then (false) else (true))) else (false)
set_option maxRecDepth 20000 in
theorem c12_isName {l : Launch} {D : va_G} {ad : Nat → Nat → Nat → Nat} {cid : Nat → Nat → Nat → ClassId} (σ : Mem)  : AMF (XM l D ad cid) M12_isName 4 eB [.ref (ad 12 0 0)] σ (some (F12_isName σ, σ)) := by
  refine AM.ofW (by decide +kernel) (Nat.le_of_ble_eq_true rfl) (ls := [(0, .ref (ad 12 0 0))]) rfl ?_
  refine aw_entryT ?_
  unfold F12_isName
  refine aw_aload_n 0 dX12_isName_0 rfl rfl ?_
  refine aw_getf (fg_12_14 (by decide)) ci_12 (by decide) w_1472 dX12_isName_1 ?_
  refine aw_iconst 1 dX12_isName_4 (by decide) ?_
  refine aw_iteT ?_
  refine aw_icmp_ne 28 dX12_isName_5 (by decide) ?_ ?_
  · refine aw_iconst 0 dX12_isName_28 (by decide) ?_
    exact aw_zreturn (b := false) rfl rfl dX12_isName_29
  · refine aw_aload_n 0 dX12_isName_8 rfl rfl ?_
    refine aw_getf (fg_12_18 (by decide)) ci_12 (by decide) w_1476 dX12_isName_9 ?_
    refine aw_bipush 8 dX12_isName_12 (by decide) ?_
    refine aw_iteT ?_
    refine aw_icmp_gt 28 dX12_isName_14 (by decide) ?_ ?_
    · refine aw_iconst 0 dX12_isName_28 (by decide) ?_
      exact aw_zreturn (b := false) rfl rfl dX12_isName_29
    · refine aw_aload_n 0 dX12_isName_17 rfl rfl ?_
      refine aw_callVT_B (c12_isKept σ ) (io_12 (by decide)) ci_12 (by decide) mk_12_isKept w_1814 w_77 w_1812 rfl rfl (Nat.le_of_ble_eq_true rfl) dX12_isName_18 ?_
      refine aw_iteT ?_
      refine aw_bif_ne 28 dX12_isName_21 (by decide) ?_ ?_
      · refine aw_iconst 0 dX12_isName_28 (by decide) ?_
        exact aw_zreturn (b := false) rfl rfl dX12_isName_29
      · refine aw_iconst 1 dX12_isName_24 (by decide) ?_
        refine aw_goto 29 dX12_isName_25 (by decide) ?_
        exact aw_zreturn (b := true) rfl rfl dX12_isName_29
def F12_peaNamed_L2 (x1 : Int32) : Nat → Mem → Int32 → Option Int32
  | 0 => fun _ _ => none
  | n + 1 => fun σ x2 =>
    (ald 3000 (gI σ 12 0 5) ((600 * x1) + 5)).bind fun v_1 => if v_1 ≤ x2 then (some (-1)) else ((ald 70 (gL σ 12 0 7) ((14 * x1) + x2)).bind fun v_2 => if v_2 = (gL σ 12 0 0 19) then (some x2) else ((F12_peaNamed_L2 x1 n) σ (x2 + 1)))
set_option maxRecDepth 20000 in
theorem c12_peaNamed_L2 {l : Launch} {D : va_G} {ad : Nat → Nat → Nat → Nat} {cid : Nat → Nat → Nat → ClassId} (x1 : Int32) : ∀ (n : Nat) (σ : Mem) (x2 : Int32), AW (XM l D ad cid) M12_peaNamed 0 eI [(0, .ref (ad 12 0 0)), (1, .int x1), (2, .int x2)] 2 [] σ ((F12_peaNamed_L2 x1 n σ x2).bind (fun v => some (v, σ))) := by
  intro n
  induction n with
  | zero => intros; exact aw_none
  | succ n ih =>
    intro σ x2
    rw [F12_peaNamed_L2.eq_2]
    refine aw_iload_n 2 dX12_peaNamed_2 rfl rfl ?_
    refine aw_aload_n 0 dX12_peaNamed_3 rfl rfl ?_
    refine aw_getf (fg_12_20 (by decide)) ci_12 (by decide) w_1478 dX12_peaNamed_4 ?_
    refine aw_sipush 600 dX12_peaNamed_7 (by decide) ?_
    refine aw_iload_n 1 dX12_peaNamed_10 rfl rfl ?_
    refine aw_imul dX12_peaNamed_11 ?_
    refine aw_iconst 5 dX12_peaNamed_12 (by decide) ?_
    refine aw_iadd dX12_peaNamed_13 ?_
    refine aw_iaload (ar_12_5 (by decide)) dX12_peaNamed_14 (fun v_1 => ?_)
    refine aw_icmp_ge 45 dX12_peaNamed_15 (by decide) ?_ ?_
    · refine aw_iconst (-1) dX12_peaNamed_45 (by decide) ?_
      exact aw_ireturn rfl dX12_peaNamed_46
    · refine aw_aload_n 0 dX12_peaNamed_18 rfl rfl ?_
      refine aw_getf (fg_12_22 (by decide)) ci_12 (by decide) w_1480 dX12_peaNamed_19 ?_
      refine aw_bipush 14 dX12_peaNamed_22 (by decide) ?_
      refine aw_iload_n 1 dX12_peaNamed_24 rfl rfl ?_
      refine aw_imul dX12_peaNamed_25 ?_
      refine aw_iload_n 2 dX12_peaNamed_26 rfl rfl ?_
      refine aw_iadd dX12_peaNamed_27 ?_
      refine aw_laload (ar_12_7 (by decide)) dX12_peaNamed_28 (fun v_2 => ?_)
      refine aw_aload_n 0 dX12_peaNamed_29 rfl rfl ?_
      refine aw_getf (fg_12_19 (by decide)) ci_12 (by decide) w_1477 dX12_peaNamed_30 ?_
      refine aw_lcmp dX12_peaNamed_33 ?_
      refine aw_lif_ne 39 dX12_peaNamed_34 (by decide) ?_ ?_
      · refine aw_iinc (ls' := [(0, .ref (ad 12 0 0)), (1, .int x1), (2, .int (x2 + 1))]) (x2 + 1) 2 [1, 2, 0] dX12_peaNamed_39 rfl (by rfl) (by decide) rfl ?_
        refine aw_goto 2 dX12_peaNamed_42 (by decide) ?_
        exact ih σ (x2 + 1)
      · refine aw_iload_n 2 dX12_peaNamed_37 rfl rfl ?_
        exact aw_ireturn rfl dX12_peaNamed_38
def F12_peaNamed (σ : Mem) (x1 : Int32) : Option Int32 :=
  F12_peaNamed_L2 x1 fuelK σ 0
set_option maxRecDepth 20000 in
theorem c12_peaNamed {l : Launch} {D : va_G} {ad : Nat → Nat → Nat → Nat} {cid : Nat → Nat → Nat → ClassId} (σ : Mem) (x1 : Int32) : AMF (XM l D ad cid) M12_peaNamed 0 eI [.ref (ad 12 0 0), .int x1] σ (oM σ (F12_peaNamed σ x1)) := by
  refine AM.ofW (by decide +kernel) (Nat.le_of_ble_eq_true rfl) (ls := [(0, .ref (ad 12 0 0)), (1, .int x1)]) rfl ?_
  refine aw_entryO ?_
  unfold F12_peaNamed
  refine aw_iconst 0 dX12_peaNamed_0 (by decide) ?_
  refine aw_istore_n (ls' := [(0, .ref (ad 12 0 0)), (1, .int x1), (2, .int 0)]) [1, 2, 0] dX12_peaNamed_1 rfl (by decide) rfl ?_
  exact c12_peaNamed_L2 x1 fuelK σ 0
def F12_shooterNamed_L2 (x1 : Int32) : Nat → Mem → Int32 → Option Int32
  | 0 => fun _ _ => none
  | n + 1 => fun σ x2 =>
    (ald 3000 (gI σ 12 0 5) ((600 * x1) + 6)).bind fun v_1 => if v_1 ≤ x2 then (some (-1)) else ((ald 70 (gL σ 12 0 7) (((14 * x1) + 8) + x2)).bind fun v_2 => if v_2 = (gL σ 12 0 0 19) then (some x2) else ((F12_shooterNamed_L2 x1 n) σ (x2 + 1)))
set_option maxRecDepth 20000 in
theorem c12_shooterNamed_L2 {l : Launch} {D : va_G} {ad : Nat → Nat → Nat → Nat} {cid : Nat → Nat → Nat → ClassId} (x1 : Int32) : ∀ (n : Nat) (σ : Mem) (x2 : Int32), AW (XM l D ad cid) M12_shooterNamed 0 eI [(0, .ref (ad 12 0 0)), (1, .int x1), (2, .int x2)] 2 [] σ ((F12_shooterNamed_L2 x1 n σ x2).bind (fun v => some (v, σ))) := by
  intro n
  induction n with
  | zero => intros; exact aw_none
  | succ n ih =>
    intro σ x2
    rw [F12_shooterNamed_L2.eq_2]
    refine aw_iload_n 2 dX12_shooterNamed_2 rfl rfl ?_
    refine aw_aload_n 0 dX12_shooterNamed_3 rfl rfl ?_
    refine aw_getf (fg_12_20 (by decide)) ci_12 (by decide) w_1478 dX12_shooterNamed_4 ?_
    refine aw_sipush 600 dX12_shooterNamed_7 (by decide) ?_
    refine aw_iload_n 1 dX12_shooterNamed_10 rfl rfl ?_
    refine aw_imul dX12_shooterNamed_11 ?_
    refine aw_bipush 6 dX12_shooterNamed_12 (by decide) ?_
    refine aw_iadd dX12_shooterNamed_14 ?_
    refine aw_iaload (ar_12_5 (by decide)) dX12_shooterNamed_15 (fun v_1 => ?_)
    refine aw_icmp_ge 49 dX12_shooterNamed_16 (by decide) ?_ ?_
    · refine aw_iconst (-1) dX12_shooterNamed_49 (by decide) ?_
      exact aw_ireturn rfl dX12_shooterNamed_50
    · refine aw_aload_n 0 dX12_shooterNamed_19 rfl rfl ?_
      refine aw_getf (fg_12_22 (by decide)) ci_12 (by decide) w_1480 dX12_shooterNamed_20 ?_
      refine aw_bipush 14 dX12_shooterNamed_23 (by decide) ?_
      refine aw_iload_n 1 dX12_shooterNamed_25 rfl rfl ?_
      refine aw_imul dX12_shooterNamed_26 ?_
      refine aw_bipush 8 dX12_shooterNamed_27 (by decide) ?_
      refine aw_iadd dX12_shooterNamed_29 ?_
      refine aw_iload_n 2 dX12_shooterNamed_30 rfl rfl ?_
      refine aw_iadd dX12_shooterNamed_31 ?_
      refine aw_laload (ar_12_7 (by decide)) dX12_shooterNamed_32 (fun v_2 => ?_)
      refine aw_aload_n 0 dX12_shooterNamed_33 rfl rfl ?_
      refine aw_getf (fg_12_19 (by decide)) ci_12 (by decide) w_1477 dX12_shooterNamed_34 ?_
      refine aw_lcmp dX12_shooterNamed_37 ?_
      refine aw_lif_ne 43 dX12_shooterNamed_38 (by decide) ?_ ?_
      · refine aw_iinc (ls' := [(0, .ref (ad 12 0 0)), (1, .int x1), (2, .int (x2 + 1))]) (x2 + 1) 2 [1, 2, 0] dX12_shooterNamed_43 rfl (by rfl) (by decide) rfl ?_
        refine aw_goto 2 dX12_shooterNamed_46 (by decide) ?_
        exact ih σ (x2 + 1)
      · refine aw_iload_n 2 dX12_shooterNamed_41 rfl rfl ?_
        exact aw_ireturn rfl dX12_shooterNamed_42
def F12_shooterNamed (σ : Mem) (x1 : Int32) : Option Int32 :=
  F12_shooterNamed_L2 x1 fuelK σ 0
set_option maxRecDepth 20000 in
theorem c12_shooterNamed {l : Launch} {D : va_G} {ad : Nat → Nat → Nat → Nat} {cid : Nat → Nat → Nat → ClassId} (σ : Mem) (x1 : Int32) : AMF (XM l D ad cid) M12_shooterNamed 0 eI [.ref (ad 12 0 0), .int x1] σ (oM σ (F12_shooterNamed σ x1)) := by
  refine AM.ofW (by decide +kernel) (Nat.le_of_ble_eq_true rfl) (ls := [(0, .ref (ad 12 0 0)), (1, .int x1)]) rfl ?_
  refine aw_entryO ?_
  unfold F12_shooterNamed
  refine aw_iconst 0 dX12_shooterNamed_0 (by decide) ?_
  refine aw_istore_n (ls' := [(0, .ref (ad 12 0 0)), (1, .int x1), (2, .int 0)]) [1, 2, 0] dX12_shooterNamed_1 rfl (by decide) rfl ?_
  exact c12_shooterNamed_L2 x1 fuelK σ 0
def F12_readNew_p47 (σ : Mem) (x1 : Int32) : Option (Unit × Mem) :=
  if (gI σ 12 0 0 12) ≤ 0 then (chk 70 (56 + x1) <| bnd (sL σ 12 0 7 (Int32.toNatClampNeg (56 + x1)) (gL σ 12 0 0 19)) fun s_2 => bd (F12_next s_2) fun _ s_3 => some ((), s_3)) else (some ((), σ))
set_option maxRecDepth 20000 in
theorem c12_readNew_p47 {l : Launch} {D : va_G} {ad : Nat → Nat → Nat → Nat} {cid : Nat → Nat → Nat → ClassId} (σ : Mem) (x1 : Int32) : AW (XM l D ad cid) M12_readNew 5 eU [(0, .ref (ad 12 0 0)), (1, .int x1)] 47 [] σ ((F12_readNew_p47 σ x1).bind some) := by
  unfold F12_readNew_p47
  refine aw_aload_n 0 dX12_readNew_47 rfl rfl ?_
  refine aw_getf (fg_12_12 (by decide)) ci_12 (by decide) w_1470 dX12_readNew_48 ?_
  refine aw_if_le 55 dX12_readNew_51 (by decide) ?_ ?_
  · refine aw_aload_n 0 dX12_readNew_55 rfl rfl ?_
    refine aw_getf (fg_12_22 (by decide)) ci_12 (by decide) w_1480 dX12_readNew_56 ?_
    refine aw_bipush 56 dX12_readNew_59 (by decide) ?_
    refine aw_iload_n 1 dX12_readNew_61 rfl rfl ?_
    refine aw_iadd dX12_readNew_62 ?_
    refine aw_aload_n 0 dX12_readNew_63 rfl rfl ?_
    refine aw_getf (fg_12_19 (by decide)) ci_12 (by decide) w_1477 dX12_readNew_64 ?_
    refine aw_lastore (ar_12_7 (by decide)) dX12_readNew_67 ?_
    refine aw_bndM (fun s_2 => ?_)
    refine aw_aload_n 0 dX12_readNew_68 rfl rfl ?_
    refine aw_callVW_U (c12_next s_2 ) (io_12 (by decide)) ci_12 (by decide) mk_12_next w_1708 w_54 w_1706 rfl rfl (Nat.le_of_ble_eq_true rfl) dX12_readNew_69 (fun _ s_3 => ?_)
    exact aw_return rfl dX12_readNew_72
  · exact aw_return rfl dX12_readNew_54
def F12_readNew_p15 (σ : Mem) (x1 : Int32) : Option (Unit × Mem) :=
  if (gI σ 12 0 0 12) = 0 then ((F12_peaNamed σ 4).bind fun v_4 => if 0 ≤ v_4 then (bd (F12_fail σ 3 (gI σ 12 0 0 15)) fun _ s_5 => F12_readNew_p47 s_5 x1) else ((F12_shooterNamed σ 4).bind fun v_6 => if v_6 < 0 then (F12_readNew_p47 σ x1) else (bd (F12_fail σ 3 (gI σ 12 0 0 15)) fun _ s_7 => F12_readNew_p47 s_7 x1))) else (F12_readNew_p47 σ x1)
set_option maxRecDepth 20000 in
theorem c12_readNew_p15 {l : Launch} {D : va_G} {ad : Nat → Nat → Nat → Nat} {cid : Nat → Nat → Nat → ClassId} (σ : Mem) (x1 : Int32) : AW (XM l D ad cid) M12_readNew 5 eU [(0, .ref (ad 12 0 0)), (1, .int x1)] 15 [] σ ((F12_readNew_p15 σ x1).bind some) := by
  unfold F12_readNew_p15
  refine aw_aload_n 0 dX12_readNew_15 rfl rfl ?_
  refine aw_getf (fg_12_12 (by decide)) ci_12 (by decide) w_1470 dX12_readNew_16 ?_
  refine aw_if_ne 47 dX12_readNew_19 (by decide) ?_ ?_
  · exact c12_readNew_p47 σ x1
  · refine aw_aload_n 0 dX12_readNew_22 rfl rfl ?_
    refine aw_iconst 4 dX12_readNew_23 (by decide) ?_
    refine aw_callVO_I (c12_peaNamed σ 4) (io_12 (by decide)) ci_12 (by decide) mk_12_peaNamed w_1868 w_90 w_1866 rfl rfl (Nat.le_of_ble_eq_true rfl) dX12_readNew_24 (fun v_4 => ?_)
    refine aw_if_ge 38 dX12_readNew_27 (by decide) ?_ ?_
    · refine aw_aload_n 0 dX12_readNew_38 rfl rfl ?_
      refine aw_iconst 3 dX12_readNew_39 (by decide) ?_
      refine aw_aload_n 0 dX12_readNew_40 rfl rfl ?_
      refine aw_getf (fg_12_15 (by decide)) ci_12 (by decide) w_1473 dX12_readNew_41 ?_
      refine aw_callVW_U (c12_fail σ 3 (gI σ 12 0 0 15)) (io_12 (by decide)) ci_12 (by decide) mk_12_fail w_1743 w_60 w_1741 rfl rfl (Nat.le_of_ble_eq_true rfl) dX12_readNew_44 (fun _ s_5 => ?_)
      exact c12_readNew_p47 s_5 x1
    · refine aw_aload_n 0 dX12_readNew_30 rfl rfl ?_
      refine aw_iconst 4 dX12_readNew_31 (by decide) ?_
      refine aw_callVO_I (c12_shooterNamed σ 4) (io_12 (by decide)) ci_12 (by decide) mk_12_shooterNamed w_1872 w_91 w_1870 rfl rfl (Nat.le_of_ble_eq_true rfl) dX12_readNew_32 (fun v_6 => ?_)
      refine aw_if_lt 47 dX12_readNew_35 (by decide) ?_ ?_
      · exact c12_readNew_p47 σ x1
      · refine aw_aload_n 0 dX12_readNew_38 rfl rfl ?_
        refine aw_iconst 3 dX12_readNew_39 (by decide) ?_
        refine aw_aload_n 0 dX12_readNew_40 rfl rfl ?_
        refine aw_getf (fg_12_15 (by decide)) ci_12 (by decide) w_1473 dX12_readNew_41 ?_
        refine aw_callVW_U (c12_fail σ 3 (gI σ 12 0 0 15)) (io_12 (by decide)) ci_12 (by decide) mk_12_fail w_1743 w_60 w_1741 rfl rfl (Nat.le_of_ble_eq_true rfl) dX12_readNew_44 (fun _ s_7 => ?_)
        exact c12_readNew_p47 s_7 x1
def F12_readNew (σ : Mem) (x1 : Int32) : Option (Unit × Mem) :=
  bd (F12_next σ) fun _ s_1 => if (F12_isName s_1) = true then (F12_readNew_p15 s_1 x1) else (bd (F12_wrong s_1) fun _ s_8 => F12_readNew_p15 s_8 x1)
set_option maxRecDepth 20000 in
theorem c12_readNew {l : Launch} {D : va_G} {ad : Nat → Nat → Nat → Nat} {cid : Nat → Nat → Nat → ClassId} (σ : Mem) (x1 : Int32) : AMF (XM l D ad cid) M12_readNew 5 eU [.ref (ad 12 0 0), .int x1] σ (F12_readNew σ x1) := by
  refine AM.ofW (by decide +kernel) (Nat.le_of_ble_eq_true rfl) (ls := [(0, .ref (ad 12 0 0)), (1, .int x1)]) rfl ?_
  refine aw_entry ?_
  unfold F12_readNew
  refine aw_aload_n 0 dX12_readNew_0 rfl rfl ?_
  refine aw_callVW_U (c12_next σ ) (io_12 (by decide)) ci_12 (by decide) mk_12_next w_1708 w_54 w_1706 rfl rfl (Nat.le_of_ble_eq_true rfl) dX12_readNew_1 (fun _ s_1 => ?_)
  refine aw_aload_n 0 dX12_readNew_4 rfl rfl ?_
  refine aw_callVT_B (c12_isName s_1 ) (io_12 (by decide)) ci_12 (by decide) mk_12_isName w_1810 w_76 w_1808 rfl rfl (Nat.le_of_ble_eq_true rfl) dX12_readNew_5 ?_
  refine aw_bif_ne 15 dX12_readNew_8 (by decide) ?_ ?_
  · exact c12_readNew_p15 s_1 x1
  · refine aw_aload_n 0 dX12_readNew_11 rfl rfl ?_
    refine aw_callVW_U (c12_wrong s_1 ) (io_12 (by decide)) ci_12 (by decide) mk_12_wrong w_1751 w_62 w_1749 rfl rfl (Nat.le_of_ble_eq_true rfl) dX12_readNew_12 (fun _ s_8 => ?_)
    exact c12_readNew_p15 s_8 x1
def F12_readPea_p151 (σ : Mem)  : Option (Unit × Mem) :=
  if (gI σ 12 0 0 12) = 0 then ((ald 3000 (gI σ 12 0 5) 2405).bind fun v_11 => chk 3000 2405 <| bnd (sI σ 12 0 5 (Int32.toNatClampNeg 2405) (v_11 + 1)) fun s_12 => some ((), s_12)) else (some ((), σ))
set_option maxRecDepth 20000 in
theorem c12_readPea_p151 {l : Launch} {D : va_G} {ad : Nat → Nat → Nat → Nat} {cid : Nat → Nat → Nat → ClassId} (σ : Mem)  : AW (XM l D ad cid) M12_readPea 6 eU [(0, .ref (ad 12 0 0))] 151 [] σ ((F12_readPea_p151 σ).bind some) := by
  unfold F12_readPea_p151
  refine aw_aload_n 0 dX12_readPea_151 rfl rfl ?_
  refine aw_getf (fg_12_12 (by decide)) ci_12 (by decide) w_1470 dX12_readPea_152 ?_
  refine aw_if_ne 170 dX12_readPea_155 (by decide) ?_ ?_
  · exact aw_return rfl dX12_readPea_170
  · refine aw_aload_n 0 dX12_readPea_158 rfl rfl ?_
    refine aw_getf (fg_12_20 (by decide)) ci_12 (by decide) w_1478 dX12_readPea_159 ?_
    refine aw_sipush 2405 dX12_readPea_162 (by decide) ?_
    refine aw_dup2_11 dX12_readPea_165 rfl rfl ?_
    refine aw_iaload (ar_12_5 (by decide)) dX12_readPea_166 (fun v_11 => ?_)
    refine aw_iconst 1 dX12_readPea_167 (by decide) ?_
    refine aw_iadd dX12_readPea_168 ?_
    refine aw_iastore (ar_12_5 (by decide)) dX12_readPea_169 ?_
    refine aw_bndM (fun s_12 => ?_)
    exact aw_return rfl dX12_readPea_170
def F12_readPea_p122 (σ : Mem) (x1 : Int32) : Option (Unit × Mem) :=
  if (gI σ 12 0 0 12) = 0 then (if (F12_isWet σ) = true then (chk 3000 (2445 + x1) <| bnd (sI σ 12 0 5 (Int32.toNatClampNeg (2445 + x1)) 1) fun s_13 => bd (F12_next s_13) fun _ s_14 => F12_readPea_p151 s_14) else (F12_readPea_p151 σ)) else (F12_readPea_p151 σ)
set_option maxRecDepth 20000 in
theorem c12_readPea_p122 {l : Launch} {D : va_G} {ad : Nat → Nat → Nat → Nat} {cid : Nat → Nat → Nat → ClassId} (σ : Mem) (x1 : Int32) : AW (XM l D ad cid) M12_readPea 6 eU [(0, .ref (ad 12 0 0)), (1, .int x1)] 122 [] σ ((F12_readPea_p122 σ x1).bind some) := by
  unfold F12_readPea_p122
  refine aw_aload_n 0 dX12_readPea_122 rfl rfl ?_
  refine aw_getf (fg_12_12 (by decide)) ci_12 (by decide) w_1470 dX12_readPea_123 ?_
  refine aw_if_ne 151 dX12_readPea_126 (by decide) ?_ ?_
  · refine aw_ls (ls' := [(0, .ref (ad 12 0 0))]) [0] rfl ?_
    exact c12_readPea_p151 σ 
  · refine aw_aload_n 0 dX12_readPea_129 rfl rfl ?_
    refine aw_callVT_B (c12_isWet σ ) (io_12 (by decide)) ci_12 (by decide) mk_12_isWet w_1831 w_81 w_1829 rfl rfl (Nat.le_of_ble_eq_true rfl) dX12_readPea_130 ?_
    refine aw_bif_eq 151 dX12_readPea_133 (by decide) ?_ ?_
    · refine aw_ls (ls' := [(0, .ref (ad 12 0 0))]) [0] rfl ?_
      exact c12_readPea_p151 σ 
    · refine aw_aload_n 0 dX12_readPea_136 rfl rfl ?_
      refine aw_getf (fg_12_20 (by decide)) ci_12 (by decide) w_1478 dX12_readPea_137 ?_
      refine aw_sipush 2445 dX12_readPea_140 (by decide) ?_
      refine aw_iload_n 1 dX12_readPea_143 rfl rfl ?_
      refine aw_iadd dX12_readPea_144 ?_
      refine aw_iconst 1 dX12_readPea_145 (by decide) ?_
      refine aw_iastore (ar_12_5 (by decide)) dX12_readPea_146 ?_
      refine aw_bndM (fun s_13 => ?_)
      refine aw_aload_n 0 dX12_readPea_147 rfl rfl ?_
      refine aw_callVW_U (c12_next s_13 ) (io_12 (by decide)) ci_12 (by decide) mk_12_next w_1708 w_54 w_1706 rfl rfl (Nat.le_of_ble_eq_true rfl) dX12_readPea_148 (fun _ s_14 => ?_)
      refine aw_ls (ls' := [(0, .ref (ad 12 0 0))]) [0] rfl ?_
      exact c12_readPea_p151 s_14 
def F12_readPea_p25 (σ : Mem) (x1 : Int32) : Option (Unit × Mem) :=
  if (gI σ 12 0 0 12) ≤ 0 then (bd (F12_readNew σ x1) fun _ s_2 => bd (F12_must s_2 (F12_isSize s_2)) fun _ s_3 => bd (F12_count s_3 1 12) fun v_4 s_5 => chk 3000 (2421 + x1) <| bnd (sI s_5 12 0 5 (Int32.toNatClampNeg (2421 + x1)) v_4) fun s_6 => bd (F12_must s_6 (F12_isWeight s_6)) fun _ s_7 => bd (F12_count s_7 1 20) fun v_8 s_9 => chk 3000 (2429 + x1) <| bnd (sI s_9 12 0 5 (Int32.toNatClampNeg (2429 + x1)) v_8) fun s_10 => if (gI s_10 12 0 0 12) = 0 then (if (F12_isCrooked s_10) = true then (bd (F12_next s_10) fun _ s_15 => bd (F12_count s_15 0 4) fun v_16 s_17 => chk 3000 (2437 + x1) <| bnd (sI s_17 12 0 5 (Int32.toNatClampNeg (2437 + x1)) v_16) fun s_18 => F12_readPea_p122 s_18 x1) else (F12_readPea_p122 s_10 x1)) else (F12_readPea_p122 s_10 x1)) else (some ((), σ))
set_option maxRecDepth 20000 in
theorem c12_readPea_p25 {l : Launch} {D : va_G} {ad : Nat → Nat → Nat → Nat} {cid : Nat → Nat → Nat → ClassId} (σ : Mem) (x1 : Int32) : AW (XM l D ad cid) M12_readPea 6 eU [(0, .ref (ad 12 0 0)), (1, .int x1)] 25 [] σ ((F12_readPea_p25 σ x1).bind some) := by
  unfold F12_readPea_p25
  refine aw_aload_n 0 dX12_readPea_25 rfl rfl ?_
  refine aw_getf (fg_12_12 (by decide)) ci_12 (by decide) w_1470 dX12_readPea_26 ?_
  refine aw_if_le 33 dX12_readPea_29 (by decide) ?_ ?_
  · refine aw_aload_n 0 dX12_readPea_33 rfl rfl ?_
    refine aw_iload_n 1 dX12_readPea_34 rfl rfl ?_
    refine aw_callVW_U (c12_readNew σ x1) (io_12 (by decide)) ci_12 (by decide) mk_12_readNew w_1806 w_75 w_1804 rfl rfl (Nat.le_of_ble_eq_true rfl) dX12_readPea_35 (fun _ s_2 => ?_)
    refine aw_aload_n 0 dX12_readPea_38 rfl rfl ?_
    refine aw_aload_n 0 dX12_readPea_39 rfl rfl ?_
    refine aw_callVT_B (c12_isSize s_2 ) (io_12 (by decide)) ci_12 (by decide) mk_12_isSize w_1818 w_78 w_1816 rfl rfl (Nat.le_of_ble_eq_true rfl) dX12_readPea_40 ?_
    refine aw_callVW_U (c12_must s_2 (F12_isSize s_2)) (io_12 (by decide)) ci_12 (by decide) mk_12_must w_1762 w_64 w_1760 rfl rfl (Nat.le_of_ble_eq_true rfl) dX12_readPea_43 (fun _ s_3 => ?_)
    refine aw_aload_n 0 dX12_readPea_46 rfl rfl ?_
    refine aw_getf (fg_12_20 (by decide)) ci_12 (by decide) w_1478 dX12_readPea_47 ?_
    refine aw_sipush 2421 dX12_readPea_50 (by decide) ?_
    refine aw_iload_n 1 dX12_readPea_53 rfl rfl ?_
    refine aw_iadd dX12_readPea_54 ?_
    refine aw_aload_n 0 dX12_readPea_55 rfl rfl ?_
    refine aw_iconst 1 dX12_readPea_56 (by decide) ?_
    refine aw_bipush 12 dX12_readPea_57 (by decide) ?_
    refine aw_callVW_I (c12_count s_3 1 12) (io_12 (by decide)) ci_12 (by decide) mk_12_count w_1747 w_61 w_1745 rfl rfl (Nat.le_of_ble_eq_true rfl) dX12_readPea_59 (fun v_4 s_5 => ?_)
    refine aw_iastore (ar_12_5 (by decide)) dX12_readPea_62 ?_
    refine aw_bndM (fun s_6 => ?_)
    refine aw_aload_n 0 dX12_readPea_63 rfl rfl ?_
    refine aw_aload_n 0 dX12_readPea_64 rfl rfl ?_
    refine aw_callVT_B (c12_isWeight s_6 ) (io_12 (by decide)) ci_12 (by decide) mk_12_isWeight w_1822 w_79 w_1820 rfl rfl (Nat.le_of_ble_eq_true rfl) dX12_readPea_65 ?_
    refine aw_callVW_U (c12_must s_6 (F12_isWeight s_6)) (io_12 (by decide)) ci_12 (by decide) mk_12_must w_1762 w_64 w_1760 rfl rfl (Nat.le_of_ble_eq_true rfl) dX12_readPea_68 (fun _ s_7 => ?_)
    refine aw_aload_n 0 dX12_readPea_71 rfl rfl ?_
    refine aw_getf (fg_12_20 (by decide)) ci_12 (by decide) w_1478 dX12_readPea_72 ?_
    refine aw_sipush 2429 dX12_readPea_75 (by decide) ?_
    refine aw_iload_n 1 dX12_readPea_78 rfl rfl ?_
    refine aw_iadd dX12_readPea_79 ?_
    refine aw_aload_n 0 dX12_readPea_80 rfl rfl ?_
    refine aw_iconst 1 dX12_readPea_81 (by decide) ?_
    refine aw_bipush 20 dX12_readPea_82 (by decide) ?_
    refine aw_callVW_I (c12_count s_7 1 20) (io_12 (by decide)) ci_12 (by decide) mk_12_count w_1747 w_61 w_1745 rfl rfl (Nat.le_of_ble_eq_true rfl) dX12_readPea_84 (fun v_8 s_9 => ?_)
    refine aw_iastore (ar_12_5 (by decide)) dX12_readPea_87 ?_
    refine aw_bndM (fun s_10 => ?_)
    refine aw_aload_n 0 dX12_readPea_88 rfl rfl ?_
    refine aw_getf (fg_12_12 (by decide)) ci_12 (by decide) w_1470 dX12_readPea_89 ?_
    refine aw_if_ne 122 dX12_readPea_92 (by decide) ?_ ?_
    · exact c12_readPea_p122 s_10 x1
    · refine aw_aload_n 0 dX12_readPea_95 rfl rfl ?_
      refine aw_callVT_B (c12_isCrooked s_10 ) (io_12 (by decide)) ci_12 (by decide) mk_12_isCrooked w_1826 w_80 w_1824 rfl rfl (Nat.le_of_ble_eq_true rfl) dX12_readPea_96 ?_
      refine aw_bif_eq 122 dX12_readPea_99 (by decide) ?_ ?_
      · exact c12_readPea_p122 s_10 x1
      · refine aw_aload_n 0 dX12_readPea_102 rfl rfl ?_
        refine aw_callVW_U (c12_next s_10 ) (io_12 (by decide)) ci_12 (by decide) mk_12_next w_1708 w_54 w_1706 rfl rfl (Nat.le_of_ble_eq_true rfl) dX12_readPea_103 (fun _ s_15 => ?_)
        refine aw_aload_n 0 dX12_readPea_106 rfl rfl ?_
        refine aw_getf (fg_12_20 (by decide)) ci_12 (by decide) w_1478 dX12_readPea_107 ?_
        refine aw_sipush 2437 dX12_readPea_110 (by decide) ?_
        refine aw_iload_n 1 dX12_readPea_113 rfl rfl ?_
        refine aw_iadd dX12_readPea_114 ?_
        refine aw_aload_n 0 dX12_readPea_115 rfl rfl ?_
        refine aw_iconst 0 dX12_readPea_116 (by decide) ?_
        refine aw_iconst 4 dX12_readPea_117 (by decide) ?_
        refine aw_callVW_I (c12_count s_15 0 4) (io_12 (by decide)) ci_12 (by decide) mk_12_count w_1747 w_61 w_1745 rfl rfl (Nat.le_of_ble_eq_true rfl) dX12_readPea_118 (fun v_16 s_17 => ?_)
        refine aw_iastore (ar_12_5 (by decide)) dX12_readPea_121 ?_
        refine aw_bndM (fun s_18 => ?_)
        exact c12_readPea_p122 s_18 x1
  · exact aw_return rfl dX12_readPea_32
def F12_readPea (σ : Mem)  : Option (Unit × Mem) :=
  (ald 3000 (gI σ 12 0 5) 2405).bind fun v_1 => if v_1 = 8 then (bd (F12_fail σ 6 (gI σ 12 0 0 15)) fun _ s_19 => F12_readPea_p25 s_19 v_1) else (F12_readPea_p25 σ v_1)
set_option maxRecDepth 20000 in
theorem c12_readPea {l : Launch} {D : va_G} {ad : Nat → Nat → Nat → Nat} {cid : Nat → Nat → Nat → ClassId} (σ : Mem)  : AMF (XM l D ad cid) M12_readPea 6 eU [.ref (ad 12 0 0)] σ (F12_readPea σ) := by
  refine AM.ofW (by decide +kernel) (Nat.le_of_ble_eq_true rfl) (ls := [(0, .ref (ad 12 0 0))]) rfl ?_
  refine aw_entry ?_
  unfold F12_readPea
  refine aw_aload_n 0 dX12_readPea_0 rfl rfl ?_
  refine aw_getf (fg_12_20 (by decide)) ci_12 (by decide) w_1478 dX12_readPea_1 ?_
  refine aw_sipush 2405 dX12_readPea_4 (by decide) ?_
  refine aw_iaload (ar_12_5 (by decide)) dX12_readPea_7 (fun v_1 => ?_)
  refine aw_istore_n (ls' := [(0, .ref (ad 12 0 0)), (1, .int v_1)]) [1, 0] dX12_readPea_8 rfl (by decide) rfl ?_
  refine aw_iload_n 1 dX12_readPea_9 rfl rfl ?_
  refine aw_bipush 8 dX12_readPea_10 (by decide) ?_
  refine aw_icmp_ne 25 dX12_readPea_12 (by decide) ?_ ?_
  · exact c12_readPea_p25 σ v_1
  · refine aw_aload_n 0 dX12_readPea_15 rfl rfl ?_
    refine aw_bipush 6 dX12_readPea_16 (by decide) ?_
    refine aw_aload_n 0 dX12_readPea_18 rfl rfl ?_
    refine aw_getf (fg_12_15 (by decide)) ci_12 (by decide) w_1473 dX12_readPea_19 ?_
    refine aw_callVW_U (c12_fail σ 6 (gI σ 12 0 0 15)) (io_12 (by decide)) ci_12 (by decide) mk_12_fail w_1743 w_60 w_1741 rfl rfl (Nat.le_of_ble_eq_true rfl) dX12_readPea_22 (fun _ s_19 => ?_)
    exact c12_readPea_p25 s_19 v_1
def F12_readShooter_p182 (σ : Mem)  : Option (Unit × Mem) :=
  if (gI σ 12 0 0 12) = 0 then ((ald 3000 (gI σ 12 0 5) 2406).bind fun v_11 => chk 3000 2406 <| bnd (sI σ 12 0 5 (Int32.toNatClampNeg 2406) (v_11 + 1)) fun s_12 => some ((), s_12)) else (some ((), σ))
set_option maxRecDepth 20000 in
theorem c12_readShooter_p182 {l : Launch} {D : va_G} {ad : Nat → Nat → Nat → Nat} {cid : Nat → Nat → Nat → ClassId} (σ : Mem)  : AW (XM l D ad cid) M12_readShooter 6 eU [(0, .ref (ad 12 0 0))] 182 [] σ ((F12_readShooter_p182 σ).bind some) := by
  unfold F12_readShooter_p182
  refine aw_aload_n 0 dX12_readShooter_182 rfl rfl ?_
  refine aw_getf (fg_12_12 (by decide)) ci_12 (by decide) w_1470 dX12_readShooter_183 ?_
  refine aw_if_ne 201 dX12_readShooter_186 (by decide) ?_ ?_
  · exact aw_return rfl dX12_readShooter_201
  · refine aw_aload_n 0 dX12_readShooter_189 rfl rfl ?_
    refine aw_getf (fg_12_20 (by decide)) ci_12 (by decide) w_1478 dX12_readShooter_190 ?_
    refine aw_sipush 2406 dX12_readShooter_193 (by decide) ?_
    refine aw_dup2_11 dX12_readShooter_196 rfl rfl ?_
    refine aw_iaload (ar_12_5 (by decide)) dX12_readShooter_197 (fun v_11 => ?_)
    refine aw_iconst 1 dX12_readShooter_198 (by decide) ?_
    refine aw_iadd dX12_readShooter_199 ?_
    refine aw_iastore (ar_12_5 (by decide)) dX12_readShooter_200 ?_
    refine aw_bndM (fun s_12 => ?_)
    exact aw_return rfl dX12_readShooter_201
def F12_readShooter_p25 (σ : Mem) (x1 : Int32) : Option (Unit × Mem) :=
  if (gI σ 12 0 0 12) ≤ 0 then (bd (F12_readNew σ (8 + x1)) fun _ s_2 => bd (F12_must s_2 (F12_isPuff s_2)) fun _ s_3 => bd (F12_count s_3 1 40) fun v_4 s_5 => chk 3000 (2453 + x1) <| bnd (sI s_5 12 0 5 (Int32.toNatClampNeg (2453 + x1)) v_4) fun s_6 => bd (F12_must s_6 (F12_isShake s_6)) fun _ s_7 => bd (F12_count s_7 0 6) fun v_8 s_9 => chk 3000 (2459 + x1) <| bnd (sI s_9 12 0 5 (Int32.toNatClampNeg (2459 + x1)) v_8) fun s_10 => if (gI s_10 12 0 0 12) = 0 then (if (F12_isLean s_10) = true then (bd (F12_next s_10) fun _ s_13 => bd (F12_count s_13 0 9) fun v_14 s_15 => chk 3000 (2465 + x1) <| bnd (sI s_15 12 0 5 (Int32.toNatClampNeg (2465 + x1)) v_14) fun s_16 => bd (F12_count s_16 0 9) fun v_17 s_18 => chk 3000 (2471 + x1) <| bnd (sI s_18 12 0 5 (Int32.toNatClampNeg (2471 + x1)) v_17) fun s_19 => if (gI s_19 12 0 0 12) = 0 then (if (F12_isLow s_19) = true then ((ald 3000 (gI s_19 12 0 5) (2471 + x1)).bind fun v_20 => chk 3000 (2471 + x1) <| bnd (sI s_19 12 0 5 (Int32.toNatClampNeg (2471 + x1)) (-v_20)) fun s_21 => bd (F12_next s_21) fun _ s_22 => F12_readShooter_p182 s_22) else (F12_readShooter_p182 s_19)) else (F12_readShooter_p182 s_19)) else (F12_readShooter_p182 s_10)) else (F12_readShooter_p182 s_10)) else (some ((), σ))
set_option maxRecDepth 20000 in
theorem c12_readShooter_p25 {l : Launch} {D : va_G} {ad : Nat → Nat → Nat → Nat} {cid : Nat → Nat → Nat → ClassId} (σ : Mem) (x1 : Int32) : AW (XM l D ad cid) M12_readShooter 6 eU [(0, .ref (ad 12 0 0)), (1, .int x1)] 25 [] σ ((F12_readShooter_p25 σ x1).bind some) := by
  unfold F12_readShooter_p25
  refine aw_aload_n 0 dX12_readShooter_25 rfl rfl ?_
  refine aw_getf (fg_12_12 (by decide)) ci_12 (by decide) w_1470 dX12_readShooter_26 ?_
  refine aw_if_le 33 dX12_readShooter_29 (by decide) ?_ ?_
  · refine aw_aload_n 0 dX12_readShooter_33 rfl rfl ?_
    refine aw_bipush 8 dX12_readShooter_34 (by decide) ?_
    refine aw_iload_n 1 dX12_readShooter_36 rfl rfl ?_
    refine aw_iadd dX12_readShooter_37 ?_
    refine aw_callVW_U (c12_readNew σ (8 + x1)) (io_12 (by decide)) ci_12 (by decide) mk_12_readNew w_1806 w_75 w_1804 rfl rfl (Nat.le_of_ble_eq_true rfl) dX12_readShooter_38 (fun _ s_2 => ?_)
    refine aw_aload_n 0 dX12_readShooter_41 rfl rfl ?_
    refine aw_aload_n 0 dX12_readShooter_42 rfl rfl ?_
    refine aw_callVT_B (c12_isPuff s_2 ) (io_12 (by decide)) ci_12 (by decide) mk_12_isPuff w_1856 w_87 w_1854 rfl rfl (Nat.le_of_ble_eq_true rfl) dX12_readShooter_43 ?_
    refine aw_callVW_U (c12_must s_2 (F12_isPuff s_2)) (io_12 (by decide)) ci_12 (by decide) mk_12_must w_1762 w_64 w_1760 rfl rfl (Nat.le_of_ble_eq_true rfl) dX12_readShooter_46 (fun _ s_3 => ?_)
    refine aw_aload_n 0 dX12_readShooter_49 rfl rfl ?_
    refine aw_getf (fg_12_20 (by decide)) ci_12 (by decide) w_1478 dX12_readShooter_50 ?_
    refine aw_sipush 2453 dX12_readShooter_53 (by decide) ?_
    refine aw_iload_n 1 dX12_readShooter_56 rfl rfl ?_
    refine aw_iadd dX12_readShooter_57 ?_
    refine aw_aload_n 0 dX12_readShooter_58 rfl rfl ?_
    refine aw_iconst 1 dX12_readShooter_59 (by decide) ?_
    refine aw_bipush 40 dX12_readShooter_60 (by decide) ?_
    refine aw_callVW_I (c12_count s_3 1 40) (io_12 (by decide)) ci_12 (by decide) mk_12_count w_1747 w_61 w_1745 rfl rfl (Nat.le_of_ble_eq_true rfl) dX12_readShooter_62 (fun v_4 s_5 => ?_)
    refine aw_iastore (ar_12_5 (by decide)) dX12_readShooter_65 ?_
    refine aw_bndM (fun s_6 => ?_)
    refine aw_aload_n 0 dX12_readShooter_66 rfl rfl ?_
    refine aw_aload_n 0 dX12_readShooter_67 rfl rfl ?_
    refine aw_callVT_B (c12_isShake s_6 ) (io_12 (by decide)) ci_12 (by decide) mk_12_isShake w_1840 w_83 w_1838 rfl rfl (Nat.le_of_ble_eq_true rfl) dX12_readShooter_68 ?_
    refine aw_callVW_U (c12_must s_6 (F12_isShake s_6)) (io_12 (by decide)) ci_12 (by decide) mk_12_must w_1762 w_64 w_1760 rfl rfl (Nat.le_of_ble_eq_true rfl) dX12_readShooter_71 (fun _ s_7 => ?_)
    refine aw_aload_n 0 dX12_readShooter_74 rfl rfl ?_
    refine aw_getf (fg_12_20 (by decide)) ci_12 (by decide) w_1478 dX12_readShooter_75 ?_
    refine aw_sipush 2459 dX12_readShooter_78 (by decide) ?_
    refine aw_iload_n 1 dX12_readShooter_81 rfl rfl ?_
    refine aw_iadd dX12_readShooter_82 ?_
    refine aw_aload_n 0 dX12_readShooter_83 rfl rfl ?_
    refine aw_iconst 0 dX12_readShooter_84 (by decide) ?_
    refine aw_bipush 6 dX12_readShooter_85 (by decide) ?_
    refine aw_callVW_I (c12_count s_7 0 6) (io_12 (by decide)) ci_12 (by decide) mk_12_count w_1747 w_61 w_1745 rfl rfl (Nat.le_of_ble_eq_true rfl) dX12_readShooter_87 (fun v_8 s_9 => ?_)
    refine aw_iastore (ar_12_5 (by decide)) dX12_readShooter_90 ?_
    refine aw_bndM (fun s_10 => ?_)
    refine aw_aload_n 0 dX12_readShooter_91 rfl rfl ?_
    refine aw_getf (fg_12_12 (by decide)) ci_12 (by decide) w_1470 dX12_readShooter_92 ?_
    refine aw_if_ne 182 dX12_readShooter_95 (by decide) ?_ ?_
    · refine aw_ls (ls' := [(0, .ref (ad 12 0 0))]) [0] rfl ?_
      exact c12_readShooter_p182 s_10 
    · refine aw_aload_n 0 dX12_readShooter_98 rfl rfl ?_
      refine aw_callVT_B (c12_isLean s_10 ) (io_12 (by decide)) ci_12 (by decide) mk_12_isLean w_1844 w_84 w_1842 rfl rfl (Nat.le_of_ble_eq_true rfl) dX12_readShooter_99 ?_
      refine aw_bif_eq 182 dX12_readShooter_102 (by decide) ?_ ?_
      · refine aw_ls (ls' := [(0, .ref (ad 12 0 0))]) [0] rfl ?_
        exact c12_readShooter_p182 s_10 
      · refine aw_aload_n 0 dX12_readShooter_105 rfl rfl ?_
        refine aw_callVW_U (c12_next s_10 ) (io_12 (by decide)) ci_12 (by decide) mk_12_next w_1708 w_54 w_1706 rfl rfl (Nat.le_of_ble_eq_true rfl) dX12_readShooter_106 (fun _ s_13 => ?_)
        refine aw_aload_n 0 dX12_readShooter_109 rfl rfl ?_
        refine aw_getf (fg_12_20 (by decide)) ci_12 (by decide) w_1478 dX12_readShooter_110 ?_
        refine aw_sipush 2465 dX12_readShooter_113 (by decide) ?_
        refine aw_iload_n 1 dX12_readShooter_116 rfl rfl ?_
        refine aw_iadd dX12_readShooter_117 ?_
        refine aw_aload_n 0 dX12_readShooter_118 rfl rfl ?_
        refine aw_iconst 0 dX12_readShooter_119 (by decide) ?_
        refine aw_bipush 9 dX12_readShooter_120 (by decide) ?_
        refine aw_callVW_I (c12_count s_13 0 9) (io_12 (by decide)) ci_12 (by decide) mk_12_count w_1747 w_61 w_1745 rfl rfl (Nat.le_of_ble_eq_true rfl) dX12_readShooter_122 (fun v_14 s_15 => ?_)
        refine aw_iastore (ar_12_5 (by decide)) dX12_readShooter_125 ?_
        refine aw_bndM (fun s_16 => ?_)
        refine aw_aload_n 0 dX12_readShooter_126 rfl rfl ?_
        refine aw_getf (fg_12_20 (by decide)) ci_12 (by decide) w_1478 dX12_readShooter_127 ?_
        refine aw_sipush 2471 dX12_readShooter_130 (by decide) ?_
        refine aw_iload_n 1 dX12_readShooter_133 rfl rfl ?_
        refine aw_iadd dX12_readShooter_134 ?_
        refine aw_aload_n 0 dX12_readShooter_135 rfl rfl ?_
        refine aw_iconst 0 dX12_readShooter_136 (by decide) ?_
        refine aw_bipush 9 dX12_readShooter_137 (by decide) ?_
        refine aw_callVW_I (c12_count s_16 0 9) (io_12 (by decide)) ci_12 (by decide) mk_12_count w_1747 w_61 w_1745 rfl rfl (Nat.le_of_ble_eq_true rfl) dX12_readShooter_139 (fun v_17 s_18 => ?_)
        refine aw_iastore (ar_12_5 (by decide)) dX12_readShooter_142 ?_
        refine aw_bndM (fun s_19 => ?_)
        refine aw_aload_n 0 dX12_readShooter_143 rfl rfl ?_
        refine aw_getf (fg_12_12 (by decide)) ci_12 (by decide) w_1470 dX12_readShooter_144 ?_
        refine aw_if_ne 182 dX12_readShooter_147 (by decide) ?_ ?_
        · refine aw_ls (ls' := [(0, .ref (ad 12 0 0))]) [0] rfl ?_
          exact c12_readShooter_p182 s_19 
        · refine aw_aload_n 0 dX12_readShooter_150 rfl rfl ?_
          refine aw_callVT_B (c12_isLow s_19 ) (io_12 (by decide)) ci_12 (by decide) mk_12_isLow w_1848 w_85 w_1846 rfl rfl (Nat.le_of_ble_eq_true rfl) dX12_readShooter_151 ?_
          refine aw_bif_eq 182 dX12_readShooter_154 (by decide) ?_ ?_
          · refine aw_ls (ls' := [(0, .ref (ad 12 0 0))]) [0] rfl ?_
            exact c12_readShooter_p182 s_19 
          · refine aw_aload_n 0 dX12_readShooter_157 rfl rfl ?_
            refine aw_getf (fg_12_20 (by decide)) ci_12 (by decide) w_1478 dX12_readShooter_158 ?_
            refine aw_sipush 2471 dX12_readShooter_161 (by decide) ?_
            refine aw_iload_n 1 dX12_readShooter_164 rfl rfl ?_
            refine aw_iadd dX12_readShooter_165 ?_
            refine aw_aload_n 0 dX12_readShooter_166 rfl rfl ?_
            refine aw_getf (fg_12_20 (by decide)) ci_12 (by decide) w_1478 dX12_readShooter_167 ?_
            refine aw_sipush 2471 dX12_readShooter_170 (by decide) ?_
            refine aw_iload_n 1 dX12_readShooter_173 rfl rfl ?_
            refine aw_iadd dX12_readShooter_174 ?_
            refine aw_iaload (ar_12_5 (by decide)) dX12_readShooter_175 (fun v_20 => ?_)
            refine aw_ineg dX12_readShooter_176 ?_
            refine aw_iastore (ar_12_5 (by decide)) dX12_readShooter_177 ?_
            refine aw_bndM (fun s_21 => ?_)
            refine aw_aload_n 0 dX12_readShooter_178 rfl rfl ?_
            refine aw_callVW_U (c12_next s_21 ) (io_12 (by decide)) ci_12 (by decide) mk_12_next w_1708 w_54 w_1706 rfl rfl (Nat.le_of_ble_eq_true rfl) dX12_readShooter_179 (fun _ s_22 => ?_)
            refine aw_ls (ls' := [(0, .ref (ad 12 0 0))]) [0] rfl ?_
            exact c12_readShooter_p182 s_22 
  · exact aw_return rfl dX12_readShooter_32
def F12_readShooter (σ : Mem)  : Option (Unit × Mem) :=
  (ald 3000 (gI σ 12 0 5) 2406).bind fun v_1 => if v_1 = 6 then (bd (F12_fail σ 6 (gI σ 12 0 0 15)) fun _ s_23 => F12_readShooter_p25 s_23 v_1) else (F12_readShooter_p25 σ v_1)
set_option maxRecDepth 20000 in
theorem c12_readShooter {l : Launch} {D : va_G} {ad : Nat → Nat → Nat → Nat} {cid : Nat → Nat → Nat → ClassId} (σ : Mem)  : AMF (XM l D ad cid) M12_readShooter 6 eU [.ref (ad 12 0 0)] σ (F12_readShooter σ) := by
  refine AM.ofW (by decide +kernel) (Nat.le_of_ble_eq_true rfl) (ls := [(0, .ref (ad 12 0 0))]) rfl ?_
  refine aw_entry ?_
  unfold F12_readShooter
  refine aw_aload_n 0 dX12_readShooter_0 rfl rfl ?_
  refine aw_getf (fg_12_20 (by decide)) ci_12 (by decide) w_1478 dX12_readShooter_1 ?_
  refine aw_sipush 2406 dX12_readShooter_4 (by decide) ?_
  refine aw_iaload (ar_12_5 (by decide)) dX12_readShooter_7 (fun v_1 => ?_)
  refine aw_istore_n (ls' := [(0, .ref (ad 12 0 0)), (1, .int v_1)]) [1, 0] dX12_readShooter_8 rfl (by decide) rfl ?_
  refine aw_iload_n 1 dX12_readShooter_9 rfl rfl ?_
  refine aw_bipush 6 dX12_readShooter_10 (by decide) ?_
  refine aw_icmp_ne 25 dX12_readShooter_12 (by decide) ?_ ?_
  · exact c12_readShooter_p25 σ v_1
  · refine aw_aload_n 0 dX12_readShooter_15 rfl rfl ?_
    refine aw_bipush 6 dX12_readShooter_16 (by decide) ?_
    refine aw_aload_n 0 dX12_readShooter_18 rfl rfl ?_
    refine aw_getf (fg_12_15 (by decide)) ci_12 (by decide) w_1473 dX12_readShooter_19 ?_
    refine aw_callVW_U (c12_fail σ 6 (gI σ 12 0 0 15)) (io_12 (by decide)) ci_12 (by decide) mk_12_fail w_1743 w_60 w_1741 rfl rfl (Nat.le_of_ble_eq_true rfl) dX12_readShooter_22 (fun _ s_23 => ?_)
    exact c12_readShooter_p25 s_23 v_1
def F12_isSign (σ : Mem) (x1 : Int32) : Bool :=
  if (gI σ 12 0 0 14) = 3 then (if (gI σ 12 0 0 17) = x1 then (true) else (false)) else (false)
set_option maxRecDepth 20000 in
theorem c12_isSign {l : Launch} {D : va_G} {ad : Nat → Nat → Nat → Nat} {cid : Nat → Nat → Nat → ClassId} (σ : Mem) (x1 : Int32) : AMF (XM l D ad cid) M12_isSign 0 eB [.ref (ad 12 0 0), .int x1] σ (some (F12_isSign σ x1, σ)) := by
  refine AM.ofW (by decide +kernel) (Nat.le_of_ble_eq_true rfl) (ls := [(0, .ref (ad 12 0 0)), (1, .int x1)]) rfl ?_
  refine aw_entryT ?_
  unfold F12_isSign
  refine aw_aload_n 0 dX12_isSign_0 rfl rfl ?_
  refine aw_getf (fg_12_14 (by decide)) ci_12 (by decide) w_1472 dX12_isSign_1 ?_
  refine aw_iconst 3 dX12_isSign_4 (by decide) ?_
  refine aw_iteT ?_
  refine aw_icmp_ne 20 dX12_isSign_5 (by decide) ?_ ?_
  · refine aw_iconst 0 dX12_isSign_20 (by decide) ?_
    exact aw_zreturn (b := false) rfl rfl dX12_isSign_21
  · refine aw_aload_n 0 dX12_isSign_8 rfl rfl ?_
    refine aw_getf (fg_12_17 (by decide)) ci_12 (by decide) w_1475 dX12_isSign_9 ?_
    refine aw_iload_n 1 dX12_isSign_12 rfl rfl ?_
    refine aw_iteT ?_
    refine aw_icmp_ne 20 dX12_isSign_13 (by decide) ?_ ?_
    · refine aw_iconst 0 dX12_isSign_20 (by decide) ?_
      exact aw_zreturn (b := false) rfl rfl dX12_isSign_21
    · refine aw_iconst 1 dX12_isSign_16 (by decide) ?_
      refine aw_goto 21 dX12_isSign_17 (by decide) ?_
      exact aw_zreturn (b := true) rfl rfl dX12_isSign_21
def F12_isWell_p24 (σ : Mem) (q1 : Int32) : Option (Bool × Mem) :=
  bnd (sI σ 12 0 0 11 q1) fun s_2 => if (gI s_2 12 0 0 12) = 0 then (some (true, s_2)) else (bd (F12_no s_2 10) fun v_3 s_4 => if v_3 = true then (some (true, s_4)) else (some (false, s_4)))
set_option maxRecDepth 20000 in
theorem c12_isWell_p24 {l : Launch} {D : va_G} {ad : Nat → Nat → Nat → Nat} {cid : Nat → Nat → Nat → ClassId} (σ : Mem) (q1 : Int32) : AW (XM l D ad cid) M12_isWell 1 eB [(0, .ref (ad 12 0 0))] 24 [.int q1, .ref (ad 12 0 0)] σ ((F12_isWell_p24 σ q1).bind some) := by
  unfold F12_isWell_p24
  refine aw_putI (fs_12_11 (by decide)) ci_12 (by decide) rfl rfl w_1469 dX12_isWell_24 ?_
  refine aw_bndM (fun s_2 => ?_)
  refine aw_aload_n 0 dX12_isWell_27 rfl rfl ?_
  refine aw_getf (fg_12_12 (by decide)) ci_12 (by decide) w_1470 dX12_isWell_28 ?_
  refine aw_if_eq 43 dX12_isWell_31 (by decide) ?_ ?_
  · refine aw_iconst 1 dX12_isWell_43 (by decide) ?_
    refine aw_goto 48 dX12_isWell_44 (by decide) ?_
    exact aw_zreturn (b := true) rfl rfl dX12_isWell_48
  · refine aw_aload_n 0 dX12_isWell_34 rfl rfl ?_
    refine aw_bipush 10 dX12_isWell_35 (by decide) ?_
    refine aw_callVW_B (c12_no s_2 10) (io_12 (by decide)) ci_12 (by decide) mk_12_no w_1660 w_49 w_1658 rfl rfl (Nat.le_of_ble_eq_true rfl) dX12_isWell_37 (fun v_3 s_4 => ?_)
    refine aw_bif_eq 47 dX12_isWell_40 (by decide) ?_ ?_
    · refine aw_iconst 0 dX12_isWell_47 (by decide) ?_
      exact aw_zreturn (b := false) rfl rfl dX12_isWell_48
    · refine aw_iconst 1 dX12_isWell_43 (by decide) ?_
      refine aw_goto 48 dX12_isWell_44 (by decide) ?_
      exact aw_zreturn (b := true) rfl rfl dX12_isWell_48
def F12_isWell (σ : Mem)  : Option (Bool × Mem) :=
  bnd (sI σ 12 0 0 10 (gI σ 12 0 0 12)) fun s_1 => if (gI s_1 12 0 0 12) = 0 then (F12_isWell_p24 s_1 (-1)) else (F12_isWell_p24 s_1 (gI s_1 12 0 0 13))
set_option maxRecDepth 20000 in
theorem c12_isWell {l : Launch} {D : va_G} {ad : Nat → Nat → Nat → Nat} {cid : Nat → Nat → Nat → ClassId} (σ : Mem)  : AMF (XM l D ad cid) M12_isWell 1 eB [.ref (ad 12 0 0)] σ (F12_isWell σ) := by
  refine AM.ofW (by decide +kernel) (Nat.le_of_ble_eq_true rfl) (ls := [(0, .ref (ad 12 0 0))]) rfl ?_
  refine aw_entry ?_
  unfold F12_isWell
  refine aw_aload_n 0 dX12_isWell_0 rfl rfl ?_
  refine aw_aload_n 0 dX12_isWell_1 rfl rfl ?_
  refine aw_getf (fg_12_12 (by decide)) ci_12 (by decide) w_1470 dX12_isWell_2 ?_
  refine aw_putI (fs_12_10 (by decide)) ci_12 (by decide) rfl rfl w_1468 dX12_isWell_5 ?_
  refine aw_bndM (fun s_1 => ?_)
  refine aw_aload_n 0 dX12_isWell_8 rfl rfl ?_
  refine aw_aload_n 0 dX12_isWell_9 rfl rfl ?_
  refine aw_getf (fg_12_12 (by decide)) ci_12 (by decide) w_1470 dX12_isWell_10 ?_
  refine aw_if_ne 20 dX12_isWell_13 (by decide) ?_ ?_
  · refine aw_aload_n 0 dX12_isWell_20 rfl rfl ?_
    refine aw_getf (fg_12_13 (by decide)) ci_12 (by decide) w_1471 dX12_isWell_21 ?_
    exact c12_isWell_p24 s_1 (gI s_1 12 0 0 13)
  · refine aw_iconst (-1) dX12_isWell_16 (by decide) ?_
    refine aw_goto 24 dX12_isWell_17 (by decide) ?_
    exact c12_isWell_p24 s_1 (-1)
def F12_copy_L2 (x1 : Int32) (x2 : Int32) : Nat → Mem → Int32 → Option ((Unit) × Mem)
  | 0 => fun _ _ => none
  | n + 1 => fun σ x3 =>
    if 600 ≤ x3 then (some ((), σ)) else ((ald 3000 (gI σ 12 0 5) ((600 * x1) + x3)).bind fun v_1 => chk 3000 ((600 * x2) + x3) <| bnd (sI σ 12 0 5 (Int32.toNatClampNeg ((600 * x2) + x3)) v_1) fun s_2 => (F12_copy_L2 x1 x2 n) s_2 (x3 + 1))
set_option maxRecDepth 20000 in
theorem c12_copy_L2 {l : Launch} {D : va_G} {ad : Nat → Nat → Nat → Nat} {cid : Nat → Nat → Nat → ClassId} {α : Type} {emb : α → Option Value} (x1 : Int32) (x2 : Int32) {G : Unit → Mem → Option (α × Mem)} (kx : ∀ r σ, AW (XM l D ad cid) M12_copy 0 emb [(0, .ref (ad 12 0 0)), (1, .int x1), (2, .int x2)] 39 [] σ (G r σ)) : ∀ (n : Nat) (σ : Mem) (x3 : Int32), AW (XM l D ad cid) M12_copy 0 emb [(0, .ref (ad 12 0 0)), (1, .int x1), (2, .int x2), (3, .int x3)] 2 [] σ (bd (F12_copy_L2 x1 x2 n σ x3) G) := by
  intro n
  induction n with
  | zero => intros; exact aw_none
  | succ n ih =>
    intro σ x3
    refine aw_bdB ?_
    rw [F12_copy_L2.eq_2]
    refine aw_iload_n 3 dX12_copy_2 rfl rfl ?_
    refine aw_sipush 600 dX12_copy_3 (by decide) ?_
    refine aw_icmp_ge 39 dX12_copy_6 (by decide) ?_ ?_
    · refine aw_ls (ls' := [(0, .ref (ad 12 0 0)), (1, .int x1), (2, .int x2)]) [0, 1, 2] rfl ?_
      exact kx () σ
    · refine aw_aload_n 0 dX12_copy_9 rfl rfl ?_
      refine aw_getf (fg_12_20 (by decide)) ci_12 (by decide) w_1478 dX12_copy_10 ?_
      refine aw_sipush 600 dX12_copy_13 (by decide) ?_
      refine aw_iload_n 2 dX12_copy_16 rfl rfl ?_
      refine aw_imul dX12_copy_17 ?_
      refine aw_iload_n 3 dX12_copy_18 rfl rfl ?_
      refine aw_iadd dX12_copy_19 ?_
      refine aw_aload_n 0 dX12_copy_20 rfl rfl ?_
      refine aw_getf (fg_12_20 (by decide)) ci_12 (by decide) w_1478 dX12_copy_21 ?_
      refine aw_sipush 600 dX12_copy_24 (by decide) ?_
      refine aw_iload_n 1 dX12_copy_27 rfl rfl ?_
      refine aw_imul dX12_copy_28 ?_
      refine aw_iload_n 3 dX12_copy_29 rfl rfl ?_
      refine aw_iadd dX12_copy_30 ?_
      refine aw_iaload (ar_12_5 (by decide)) dX12_copy_31 (fun v_1 => ?_)
      refine aw_iastore (ar_12_5 (by decide)) dX12_copy_32 ?_
      refine aw_bndM (fun s_2 => ?_)
      refine aw_iinc (ls' := [(0, .ref (ad 12 0 0)), (1, .int x1), (2, .int x2), (3, .int (x3 + 1))]) (x3 + 1) 3 [1, 2, 3, 0] dX12_copy_33 rfl (by rfl) (by decide) rfl ?_
      refine aw_goto 2 dX12_copy_36 (by decide) ?_
      exact ih s_2 (x3 + 1)
def F12_copy_L41 (x1 : Int32) (x2 : Int32) : Nat → Mem → Int32 → Option ((Unit) × Mem)
  | 0 => fun _ _ => none
  | n + 1 => fun σ x3 =>
    if 14 ≤ x3 then (some ((), σ)) else ((ald 70 (gL σ 12 0 7) ((14 * x1) + x3)).bind fun v_5 => chk 70 ((14 * x2) + x3) <| bnd (sL σ 12 0 7 (Int32.toNatClampNeg ((14 * x2) + x3)) v_5) fun s_6 => (F12_copy_L41 x1 x2 n) s_6 (x3 + 1))
set_option maxRecDepth 20000 in
theorem c12_copy_L41 {l : Launch} {D : va_G} {ad : Nat → Nat → Nat → Nat} {cid : Nat → Nat → Nat → ClassId} {α : Type} {emb : α → Option Value} (x1 : Int32) (x2 : Int32) {G : Unit → Mem → Option (α × Mem)} (kx : ∀ r σ, AW (XM l D ad cid) M12_copy 0 emb [] 75 [] σ (G r σ)) : ∀ (n : Nat) (σ : Mem) (x3 : Int32), AW (XM l D ad cid) M12_copy 0 emb [(0, .ref (ad 12 0 0)), (1, .int x1), (2, .int x2), (3, .int x3)] 41 [] σ (bd (F12_copy_L41 x1 x2 n σ x3) G) := by
  intro n
  induction n with
  | zero => intros; exact aw_none
  | succ n ih =>
    intro σ x3
    refine aw_bdB ?_
    rw [F12_copy_L41.eq_2]
    refine aw_iload_n 3 dX12_copy_41 rfl rfl ?_
    refine aw_bipush 14 dX12_copy_42 (by decide) ?_
    refine aw_icmp_ge 75 dX12_copy_44 (by decide) ?_ ?_
    · refine aw_ls (ls' := []) [] rfl ?_
      exact kx () σ
    · refine aw_aload_n 0 dX12_copy_47 rfl rfl ?_
      refine aw_getf (fg_12_22 (by decide)) ci_12 (by decide) w_1480 dX12_copy_48 ?_
      refine aw_bipush 14 dX12_copy_51 (by decide) ?_
      refine aw_iload_n 2 dX12_copy_53 rfl rfl ?_
      refine aw_imul dX12_copy_54 ?_
      refine aw_iload_n 3 dX12_copy_55 rfl rfl ?_
      refine aw_iadd dX12_copy_56 ?_
      refine aw_aload_n 0 dX12_copy_57 rfl rfl ?_
      refine aw_getf (fg_12_22 (by decide)) ci_12 (by decide) w_1480 dX12_copy_58 ?_
      refine aw_bipush 14 dX12_copy_61 (by decide) ?_
      refine aw_iload_n 1 dX12_copy_63 rfl rfl ?_
      refine aw_imul dX12_copy_64 ?_
      refine aw_iload_n 3 dX12_copy_65 rfl rfl ?_
      refine aw_iadd dX12_copy_66 ?_
      refine aw_laload (ar_12_7 (by decide)) dX12_copy_67 (fun v_5 => ?_)
      refine aw_lastore (ar_12_7 (by decide)) dX12_copy_68 ?_
      refine aw_bndM (fun s_6 => ?_)
      refine aw_iinc (ls' := [(0, .ref (ad 12 0 0)), (1, .int x1), (2, .int x2), (3, .int (x3 + 1))]) (x3 + 1) 3 [1, 2, 3, 0] dX12_copy_69 rfl (by rfl) (by decide) rfl ?_
      refine aw_goto 41 dX12_copy_72 (by decide) ?_
      exact ih s_6 (x3 + 1)
def F12_copy (σ : Mem) (x1 : Int32) (x2 : Int32) : Option (Unit × Mem) :=
  bd (F12_copy_L2 x1 x2 fuelK σ 0) fun r_3 s_4 => bd (F12_copy_L41 x1 x2 fuelK s_4 0) fun r_7 s_8 => some ((), s_8)
set_option maxRecDepth 20000 in
theorem c12_copy {l : Launch} {D : va_G} {ad : Nat → Nat → Nat → Nat} {cid : Nat → Nat → Nat → ClassId} (σ : Mem) (x1 : Int32) (x2 : Int32) : AMF (XM l D ad cid) M12_copy 0 eU [.ref (ad 12 0 0), .int x1, .int x2] σ (F12_copy σ x1 x2) := by
  refine AM.ofW (by decide +kernel) (Nat.le_of_ble_eq_true rfl) (ls := [(0, .ref (ad 12 0 0)), (1, .int x1), (2, .int x2)]) rfl ?_
  refine aw_entry ?_
  unfold F12_copy
  refine aw_iconst 0 dX12_copy_0 (by decide) ?_
  refine aw_istore_n (ls' := [(0, .ref (ad 12 0 0)), (1, .int x1), (2, .int x2), (3, .int 0)]) [1, 2, 3, 0] dX12_copy_1 rfl (by decide) rfl ?_
  refine aw_assocW ?_
  refine c12_copy_L2 x1 x2 (fun r_3 s_4 => ?_) fuelK σ 0
  refine aw_iconst 0 dX12_copy_39 (by decide) ?_
  refine aw_istore_n (ls' := [(0, .ref (ad 12 0 0)), (1, .int x1), (2, .int x2), (3, .int 0)]) [1, 2, 3, 0] dX12_copy_40 rfl (by decide) rfl ?_
  refine aw_assocW ?_
  refine c12_copy_L41 x1 x2 (fun r_7 s_8 => ?_) fuelK s_4 0
  exact aw_return rfl dX12_copy_75
def F12_tent_L25  : Nat → Mem → Int32 → Option ((Unit) × Mem)
  | 0 => fun _ _ => none
  | n + 1 => fun σ x2 =>
    if 600 ≤ x2 then (some ((), σ)) else (chk 3000 (2400 + x2) <| bnd (sI σ 12 0 5 (Int32.toNatClampNeg (2400 + x2)) 0) fun s_5 => (F12_tent_L25  n) s_5 (x2 + 1))
set_option maxRecDepth 20000 in
theorem c12_tent_L25 {l : Launch} {D : va_G} {ad : Nat → Nat → Nat → Nat} {cid : Nat → Nat → Nat → ClassId} {α : Type} {emb : α → Option Value}  {G : Unit → Mem → Option (α × Mem)} (kx : ∀ r σ, AW (XM l D ad cid) M12_tent 7 emb [(0, .ref (ad 12 0 0))] 49 [] σ (G r σ)) : ∀ (n : Nat) (σ : Mem) (x2 : Int32), AW (XM l D ad cid) M12_tent 7 emb [(0, .ref (ad 12 0 0)), (2, .int x2)] 25 [] σ (bd (F12_tent_L25  n σ x2) G) := by
  intro n
  induction n with
  | zero => intros; exact aw_none
  | succ n ih =>
    intro σ x2
    refine aw_bdB ?_
    rw [F12_tent_L25.eq_2]
    refine aw_iload_n 1 dX12_tent_25 rfl rfl ?_
    refine aw_sipush 600 dX12_tent_26 (by decide) ?_
    refine aw_icmp_ge 49 dX12_tent_29 (by decide) ?_ ?_
    · refine aw_ls (ls' := [(0, .ref (ad 12 0 0))]) [0] rfl ?_
      exact kx () σ
    · refine aw_aload_n 0 dX12_tent_32 rfl rfl ?_
      refine aw_getf (fg_12_20 (by decide)) ci_12 (by decide) w_1478 dX12_tent_33 ?_
      refine aw_sipush 2400 dX12_tent_36 (by decide) ?_
      refine aw_iload_n 1 dX12_tent_39 rfl rfl ?_
      refine aw_iadd dX12_tent_40 ?_
      refine aw_iconst 0 dX12_tent_41 (by decide) ?_
      refine aw_iastore (ar_12_5 (by decide)) dX12_tent_42 ?_
      refine aw_bndM (fun s_5 => ?_)
      refine aw_iinc (ls' := [(0, .ref (ad 12 0 0)), (2, .int (x2 + 1))]) (x2 + 1) 1 [1, 0] dX12_tent_43 rfl (by rfl) (by decide) rfl ?_
      refine aw_goto 25 dX12_tent_46 (by decide) ?_
      exact ih s_5 (x2 + 1)
def F12_tent_L71  : Nat → Mem → Option ((Unit) × Mem)
  | 0 => fun _ => none
  | n + 1 => fun σ  =>
    if (gI σ 12 0 0 12) = 0 then (if (gI σ 12 0 0 14) = 0 then (some ((), σ)) else (if (F12_isTube σ) = true then (bd (F12_readTube σ) fun _ s_24 => bd (F12_must s_24 (F12_isSign s_24 59)) fun _ s_25 => (F12_tent_L71  n) s_25 ) else (if (F12_isFar σ) = true then (bd (F12_readFar σ) fun _ s_22 => bd (F12_must s_22 (F12_isSign s_22 59)) fun _ s_23 => (F12_tent_L71  n) s_23 ) else (if (F12_isWind σ) = true then (bd (F12_readWind σ) fun _ s_20 => bd (F12_must s_20 (F12_isSign s_20 59)) fun _ s_21 => (F12_tent_L71  n) s_21 ) else (if (F12_isRing σ) = true then (bd (F12_readRing σ) fun _ s_18 => bd (F12_must s_18 (F12_isSign s_18 59)) fun _ s_19 => (F12_tent_L71  n) s_19 ) else (if (F12_isPea σ) = true then (bd (F12_readPea σ) fun _ s_16 => bd (F12_must s_16 (F12_isSign s_16 59)) fun _ s_17 => (F12_tent_L71  n) s_17 ) else (if (F12_isShooter σ) = true then (bd (F12_readShooter σ) fun _ s_14 => bd (F12_must s_14 (F12_isSign s_14 59)) fun _ s_15 => (F12_tent_L71  n) s_15 ) else (bd (F12_wrong σ) fun _ s_12 => bd (F12_must s_12 (F12_isSign s_12 59)) fun _ s_13 => (F12_tent_L71  n) s_13 )))))))) else (some ((), σ))
set_option maxRecDepth 20000 in
theorem c12_tent_L71 {l : Launch} {D : va_G} {ad : Nat → Nat → Nat → Nat} {cid : Nat → Nat → Nat → ClassId} {α : Type} {emb : α → Option Value}  {G : Unit → Mem → Option (α × Mem)} (kx : ∀ r σ, AW (XM l D ad cid) M12_tent 7 emb [(0, .ref (ad 12 0 0))] 186 [] σ (G r σ)) : ∀ (n : Nat) (σ : Mem) , AW (XM l D ad cid) M12_tent 7 emb [(0, .ref (ad 12 0 0))] 71 [] σ (bd (F12_tent_L71  n σ ) G) := by
  intro n
  induction n with
  | zero => intros; exact aw_none
  | succ n ih =>
    intro σ 
    refine aw_bdB ?_
    rw [F12_tent_L71.eq_2]
    refine aw_aload_n 0 dX12_tent_71 rfl rfl ?_
    refine aw_getf (fg_12_12 (by decide)) ci_12 (by decide) w_1470 dX12_tent_72 ?_
    refine aw_if_ne 186 dX12_tent_75 (by decide) ?_ ?_
    · exact kx () σ
    · refine aw_aload_n 0 dX12_tent_78 rfl rfl ?_
      refine aw_getf (fg_12_14 (by decide)) ci_12 (by decide) w_1472 dX12_tent_79 ?_
      refine aw_if_eq 186 dX12_tent_82 (by decide) ?_ ?_
      · exact kx () σ
      · refine aw_aload_n 0 dX12_tent_85 rfl rfl ?_
        refine aw_callVT_B (c12_isTube σ ) (io_12 (by decide)) ci_12 (by decide) mk_12_isTube w_1728 w_57 w_1726 rfl rfl (Nat.le_of_ble_eq_true rfl) dX12_tent_86 ?_
        refine aw_bif_eq 99 dX12_tent_89 (by decide) ?_ ?_
        · refine aw_aload_n 0 dX12_tent_99 rfl rfl ?_
          refine aw_callVT_B (c12_isFar σ ) (io_12 (by decide)) ci_12 (by decide) mk_12_isFar w_1766 w_65 w_1764 rfl rfl (Nat.le_of_ble_eq_true rfl) dX12_tent_100 ?_
          refine aw_bif_eq 113 dX12_tent_103 (by decide) ?_ ?_
          · refine aw_aload_n 0 dX12_tent_113 rfl rfl ?_
            refine aw_callVT_B (c12_isWind σ ) (io_12 (by decide)) ci_12 (by decide) mk_12_isWind w_1774 w_67 w_1772 rfl rfl (Nat.le_of_ble_eq_true rfl) dX12_tent_114 ?_
            refine aw_bif_eq 127 dX12_tent_117 (by decide) ?_ ?_
            · refine aw_aload_n 0 dX12_tent_127 rfl rfl ?_
              refine aw_callVT_B (c12_isRing σ ) (io_12 (by decide)) ci_12 (by decide) mk_12_isRing w_1786 w_70 w_1784 rfl rfl (Nat.le_of_ble_eq_true rfl) dX12_tent_128 ?_
              refine aw_bif_eq 141 dX12_tent_131 (by decide) ?_ ?_
              · refine aw_aload_n 0 dX12_tent_141 rfl rfl ?_
                refine aw_callVT_B (c12_isPea σ ) (io_12 (by decide)) ci_12 (by decide) mk_12_isPea w_1798 w_73 w_1796 rfl rfl (Nat.le_of_ble_eq_true rfl) dX12_tent_142 ?_
                refine aw_bif_eq 155 dX12_tent_145 (by decide) ?_ ?_
                · refine aw_aload_n 0 dX12_tent_155 rfl rfl ?_
                  refine aw_callVT_B (c12_isShooter σ ) (io_12 (by decide)) ci_12 (by decide) mk_12_isShooter w_1835 w_82 w_1833 rfl rfl (Nat.le_of_ble_eq_true rfl) dX12_tent_156 ?_
                  refine aw_bif_eq 169 dX12_tent_159 (by decide) ?_ ?_
                  · refine aw_aload_n 0 dX12_tent_169 rfl rfl ?_
                    refine aw_callVW_U (c12_wrong σ ) (io_12 (by decide)) ci_12 (by decide) mk_12_wrong w_1751 w_62 w_1749 rfl rfl (Nat.le_of_ble_eq_true rfl) dX12_tent_170 (fun _ s_12 => ?_)
                    refine aw_aload_n 0 dX12_tent_173 rfl rfl ?_
                    refine aw_aload_n 0 dX12_tent_174 rfl rfl ?_
                    refine aw_bipush 59 dX12_tent_175 (by decide) ?_
                    refine aw_callVT_B (c12_isSign s_12 59) (io_12 (by decide)) ci_12 (by decide) mk_12_isSign w_1880 w_93 w_1878 rfl rfl (Nat.le_of_ble_eq_true rfl) dX12_tent_177 ?_
                    refine aw_callVW_U (c12_must s_12 (F12_isSign s_12 59)) (io_12 (by decide)) ci_12 (by decide) mk_12_must w_1762 w_64 w_1760 rfl rfl (Nat.le_of_ble_eq_true rfl) dX12_tent_180 (fun _ s_13 => ?_)
                    refine aw_goto 71 dX12_tent_183 (by decide) ?_
                    exact ih s_13 
                  · refine aw_aload_n 0 dX12_tent_162 rfl rfl ?_
                    refine aw_callVW_U (c12_readShooter σ ) (io_12 (by decide)) ci_12 (by decide) mk_12_readShooter w_1876 w_92 w_1874 rfl rfl (Nat.le_of_ble_eq_true rfl) dX12_tent_163 (fun _ s_14 => ?_)
                    refine aw_goto 173 dX12_tent_166 (by decide) ?_
                    refine aw_aload_n 0 dX12_tent_173 rfl rfl ?_
                    refine aw_aload_n 0 dX12_tent_174 rfl rfl ?_
                    refine aw_bipush 59 dX12_tent_175 (by decide) ?_
                    refine aw_callVT_B (c12_isSign s_14 59) (io_12 (by decide)) ci_12 (by decide) mk_12_isSign w_1880 w_93 w_1878 rfl rfl (Nat.le_of_ble_eq_true rfl) dX12_tent_177 ?_
                    refine aw_callVW_U (c12_must s_14 (F12_isSign s_14 59)) (io_12 (by decide)) ci_12 (by decide) mk_12_must w_1762 w_64 w_1760 rfl rfl (Nat.le_of_ble_eq_true rfl) dX12_tent_180 (fun _ s_15 => ?_)
                    refine aw_goto 71 dX12_tent_183 (by decide) ?_
                    exact ih s_15 
                · refine aw_aload_n 0 dX12_tent_148 rfl rfl ?_
                  refine aw_callVW_U (c12_readPea σ ) (io_12 (by decide)) ci_12 (by decide) mk_12_readPea w_1802 w_74 w_1800 rfl rfl (Nat.le_of_ble_eq_true rfl) dX12_tent_149 (fun _ s_16 => ?_)
                  refine aw_goto 173 dX12_tent_152 (by decide) ?_
                  refine aw_aload_n 0 dX12_tent_173 rfl rfl ?_
                  refine aw_aload_n 0 dX12_tent_174 rfl rfl ?_
                  refine aw_bipush 59 dX12_tent_175 (by decide) ?_
                  refine aw_callVT_B (c12_isSign s_16 59) (io_12 (by decide)) ci_12 (by decide) mk_12_isSign w_1880 w_93 w_1878 rfl rfl (Nat.le_of_ble_eq_true rfl) dX12_tent_177 ?_
                  refine aw_callVW_U (c12_must s_16 (F12_isSign s_16 59)) (io_12 (by decide)) ci_12 (by decide) mk_12_must w_1762 w_64 w_1760 rfl rfl (Nat.le_of_ble_eq_true rfl) dX12_tent_180 (fun _ s_17 => ?_)
                  refine aw_goto 71 dX12_tent_183 (by decide) ?_
                  exact ih s_17 
              · refine aw_aload_n 0 dX12_tent_134 rfl rfl ?_
                refine aw_callVW_U (c12_readRing σ ) (io_12 (by decide)) ci_12 (by decide) mk_12_readRing w_1790 w_71 w_1788 rfl rfl (Nat.le_of_ble_eq_true rfl) dX12_tent_135 (fun _ s_18 => ?_)
                refine aw_goto 173 dX12_tent_138 (by decide) ?_
                refine aw_aload_n 0 dX12_tent_173 rfl rfl ?_
                refine aw_aload_n 0 dX12_tent_174 rfl rfl ?_
                refine aw_bipush 59 dX12_tent_175 (by decide) ?_
                refine aw_callVT_B (c12_isSign s_18 59) (io_12 (by decide)) ci_12 (by decide) mk_12_isSign w_1880 w_93 w_1878 rfl rfl (Nat.le_of_ble_eq_true rfl) dX12_tent_177 ?_
                refine aw_callVW_U (c12_must s_18 (F12_isSign s_18 59)) (io_12 (by decide)) ci_12 (by decide) mk_12_must w_1762 w_64 w_1760 rfl rfl (Nat.le_of_ble_eq_true rfl) dX12_tent_180 (fun _ s_19 => ?_)
                refine aw_goto 71 dX12_tent_183 (by decide) ?_
                exact ih s_19 
            · refine aw_aload_n 0 dX12_tent_120 rfl rfl ?_
              refine aw_callVW_U (c12_readWind σ ) (io_12 (by decide)) ci_12 (by decide) mk_12_readWind w_1778 w_68 w_1776 rfl rfl (Nat.le_of_ble_eq_true rfl) dX12_tent_121 (fun _ s_20 => ?_)
              refine aw_goto 173 dX12_tent_124 (by decide) ?_
              refine aw_aload_n 0 dX12_tent_173 rfl rfl ?_
              refine aw_aload_n 0 dX12_tent_174 rfl rfl ?_
              refine aw_bipush 59 dX12_tent_175 (by decide) ?_
              refine aw_callVT_B (c12_isSign s_20 59) (io_12 (by decide)) ci_12 (by decide) mk_12_isSign w_1880 w_93 w_1878 rfl rfl (Nat.le_of_ble_eq_true rfl) dX12_tent_177 ?_
              refine aw_callVW_U (c12_must s_20 (F12_isSign s_20 59)) (io_12 (by decide)) ci_12 (by decide) mk_12_must w_1762 w_64 w_1760 rfl rfl (Nat.le_of_ble_eq_true rfl) dX12_tent_180 (fun _ s_21 => ?_)
              refine aw_goto 71 dX12_tent_183 (by decide) ?_
              exact ih s_21 
          · refine aw_aload_n 0 dX12_tent_106 rfl rfl ?_
            refine aw_callVW_U (c12_readFar σ ) (io_12 (by decide)) ci_12 (by decide) mk_12_readFar w_1770 w_66 w_1768 rfl rfl (Nat.le_of_ble_eq_true rfl) dX12_tent_107 (fun _ s_22 => ?_)
            refine aw_goto 173 dX12_tent_110 (by decide) ?_
            refine aw_aload_n 0 dX12_tent_173 rfl rfl ?_
            refine aw_aload_n 0 dX12_tent_174 rfl rfl ?_
            refine aw_bipush 59 dX12_tent_175 (by decide) ?_
            refine aw_callVT_B (c12_isSign s_22 59) (io_12 (by decide)) ci_12 (by decide) mk_12_isSign w_1880 w_93 w_1878 rfl rfl (Nat.le_of_ble_eq_true rfl) dX12_tent_177 ?_
            refine aw_callVW_U (c12_must s_22 (F12_isSign s_22 59)) (io_12 (by decide)) ci_12 (by decide) mk_12_must w_1762 w_64 w_1760 rfl rfl (Nat.le_of_ble_eq_true rfl) dX12_tent_180 (fun _ s_23 => ?_)
            refine aw_goto 71 dX12_tent_183 (by decide) ?_
            exact ih s_23 
        · refine aw_aload_n 0 dX12_tent_92 rfl rfl ?_
          refine aw_callVW_U (c12_readTube σ ) (io_12 (by decide)) ci_12 (by decide) mk_12_readTube w_1739 w_59 w_1737 rfl rfl (Nat.le_of_ble_eq_true rfl) dX12_tent_93 (fun _ s_24 => ?_)
          refine aw_goto 173 dX12_tent_96 (by decide) ?_
          refine aw_aload_n 0 dX12_tent_173 rfl rfl ?_
          refine aw_aload_n 0 dX12_tent_174 rfl rfl ?_
          refine aw_bipush 59 dX12_tent_175 (by decide) ?_
          refine aw_callVT_B (c12_isSign s_24 59) (io_12 (by decide)) ci_12 (by decide) mk_12_isSign w_1880 w_93 w_1878 rfl rfl (Nat.le_of_ble_eq_true rfl) dX12_tent_177 ?_
          refine aw_callVW_U (c12_must s_24 (F12_isSign s_24 59)) (io_12 (by decide)) ci_12 (by decide) mk_12_must w_1762 w_64 w_1760 rfl rfl (Nat.le_of_ble_eq_true rfl) dX12_tent_180 (fun _ s_25 => ?_)
          refine aw_goto 71 dX12_tent_183 (by decide) ?_
          exact ih s_25 
def F12_tent_p186 (σ : Mem)  : Option (Int32 × Mem) :=
  bd (F12_isWell σ) fun v_28 s_29 => if v_28 = true then (bd (F12_copy s_29 4 0) fun _ s_30 => (ald 3000 (gI s_30 12 0 5) 5).bind fun v_31 => some (v_31, s_30)) else (some ((-1), s_29))
set_option maxRecDepth 20000 in
theorem c12_tent_p186 {l : Launch} {D : va_G} {ad : Nat → Nat → Nat → Nat} {cid : Nat → Nat → Nat → ClassId} (σ : Mem)  : AW (XM l D ad cid) M12_tent 7 eI [(0, .ref (ad 12 0 0))] 186 [] σ ((F12_tent_p186 σ).bind some) := by
  unfold F12_tent_p186
  refine aw_aload_n 0 dX12_tent_186 rfl rfl ?_
  refine aw_callVW_B (c12_isWell σ ) (io_12 (by decide)) ci_12 (by decide) mk_12_isWell w_1884 w_94 w_1882 rfl rfl (Nat.le_of_ble_eq_true rfl) dX12_tent_187 (fun v_28 s_29 => ?_)
  refine aw_bif_ne 195 dX12_tent_190 (by decide) ?_ ?_
  · refine aw_aload_n 0 dX12_tent_195 rfl rfl ?_
    refine aw_iconst 4 dX12_tent_196 (by decide) ?_
    refine aw_iconst 0 dX12_tent_197 (by decide) ?_
    refine aw_callVW_U (c12_copy s_29 4 0) (io_12 (by decide)) ci_12 (by decide) mk_12_copy w_1888 w_95 w_1886 rfl rfl (Nat.le_of_ble_eq_true rfl) dX12_tent_198 (fun _ s_30 => ?_)
    refine aw_aload_n 0 dX12_tent_201 rfl rfl ?_
    refine aw_getf (fg_12_20 (by decide)) ci_12 (by decide) w_1478 dX12_tent_202 ?_
    refine aw_iconst 5 dX12_tent_205 (by decide) ?_
    refine aw_iaload (ar_12_5 (by decide)) dX12_tent_206 (fun v_31 => ?_)
    exact aw_ireturn rfl dX12_tent_207
  · refine aw_iconst (-1) dX12_tent_193 (by decide) ?_
    exact aw_ireturn rfl dX12_tent_194
def F12_tent (σ : Mem) (x1 : Int32) : Option (Int32 × Mem) :=
  bnd (sI σ 12 0 0 1 0) fun s_1 => bnd (sI s_1 12 0 0 0 0) fun s_2 => bd (F12_opens s_2 x1 900) fun v_3 s_4 => if v_3 = true then (bd (F12_tent_L25  fuelK s_4 0) fun r_6 s_7 => bd (F12_begins s_7 2400) fun _ s_8 => bnd (sB s_8 12 0 0 24 false) fun s_9 => bnd (sB s_9 12 0 0 25 false) fun s_10 => bnd (sB s_10 12 0 0 26 false) fun s_11 => bd (F12_tent_L71  fuelK s_11 ) fun r_26 s_27 => F12_tent_p186 s_27) else (some ((-1), s_4))
set_option maxRecDepth 20000 in
theorem c12_tent {l : Launch} {D : va_G} {ad : Nat → Nat → Nat → Nat} {cid : Nat → Nat → Nat → ClassId} (σ : Mem) (x1 : Int32) : AMF (XM l D ad cid) M12_tent 7 eI [.ref (ad 12 0 0), .int x1] σ (F12_tent σ x1) := by
  refine AM.ofW (by decide +kernel) (Nat.le_of_ble_eq_true rfl) (ls := [(0, .ref (ad 12 0 0)), (1, .int x1)]) rfl ?_
  refine aw_entry ?_
  unfold F12_tent
  refine aw_aload_n 0 dX12_tent_0 rfl rfl ?_
  refine aw_iconst 0 dX12_tent_1 (by decide) ?_
  refine aw_putI (fs_12_1 (by decide)) ci_12 (by decide) rfl rfl w_1459 dX12_tent_2 ?_
  refine aw_bndM (fun s_1 => ?_)
  refine aw_aload_n 0 dX12_tent_5 rfl rfl ?_
  refine aw_iconst 0 dX12_tent_6 (by decide) ?_
  refine aw_putI (fs_12_0 (by decide)) ci_12 (by decide) rfl rfl w_1458 dX12_tent_7 ?_
  refine aw_bndM (fun s_2 => ?_)
  refine aw_aload_n 0 dX12_tent_10 rfl rfl ?_
  refine aw_iload_n 1 dX12_tent_11 rfl rfl ?_
  refine aw_sipush 900 dX12_tent_12 (by decide) ?_
  refine aw_callVW_B (c12_opens s_2 x1 900) (io_12 (by decide)) ci_12 (by decide) mk_12_opens w_1704 w_53 w_1702 rfl rfl (Nat.le_of_ble_eq_true rfl) dX12_tent_15 (fun v_3 s_4 => ?_)
  refine aw_bif_ne 23 dX12_tent_18 (by decide) ?_ ?_
  · refine aw_iconst 0 dX12_tent_23 (by decide) ?_
    refine aw_istore_n (ls' := [(0, .ref (ad 12 0 0)), (2, .int 0)]) [1, 0] dX12_tent_24 rfl (by decide) rfl ?_
    refine aw_assocW ?_
    refine c12_tent_L25  (fun r_6 s_7 => ?_) fuelK s_4 0
    refine aw_aload_n 0 dX12_tent_49 rfl rfl ?_
    refine aw_sipush 2400 dX12_tent_50 (by decide) ?_
    refine aw_callVW_U (c12_begins s_7 2400) (io_12 (by decide)) ci_12 (by decide) mk_12_begins w_1456 w_48 w_1454 rfl rfl (Nat.le_of_ble_eq_true rfl) dX12_tent_53 (fun _ s_8 => ?_)
    refine aw_aload_n 0 dX12_tent_56 rfl rfl ?_
    refine aw_iconst 0 dX12_tent_57 (by decide) ?_
    refine aw_putB (v := false) rfl (fs_12_24 (by decide)) ci_12 (by decide) rfl rfl w_1482 dX12_tent_58 ?_
    refine aw_bndM (fun s_9 => ?_)
    refine aw_aload_n 0 dX12_tent_61 rfl rfl ?_
    refine aw_iconst 0 dX12_tent_62 (by decide) ?_
    refine aw_putB (v := false) rfl (fs_12_25 (by decide)) ci_12 (by decide) rfl rfl w_1483 dX12_tent_63 ?_
    refine aw_bndM (fun s_10 => ?_)
    refine aw_aload_n 0 dX12_tent_66 rfl rfl ?_
    refine aw_iconst 0 dX12_tent_67 (by decide) ?_
    refine aw_putB (v := false) rfl (fs_12_26 (by decide)) ci_12 (by decide) rfl rfl w_1484 dX12_tent_68 ?_
    refine aw_bndM (fun s_11 => ?_)
    refine aw_assocW ?_
    refine c12_tent_L71  (fun r_26 s_27 => ?_) fuelK s_11 
    exact c12_tent_p186 s_27 
  · refine aw_iconst (-1) dX12_tent_21 (by decide) ?_
    exact aw_ireturn rfl dX12_tent_22
def F12_readTold_p46 (σ : Mem) (q0 : Int32) : Option (Int32 × Mem) :=
  if (gI σ 12 0 0 12) = 0 then (if 0 ≤ q0 then (bd (F12_must σ true) fun _ s_3 => some (q0, s_3)) else (bd (F12_fail σ 3 (gI σ 12 0 0 15)) fun _ s_4 => bd (F12_must s_4 true) fun _ s_5 => some (q0, s_5))) else (bd (F12_must σ true) fun _ s_2 => some (q0, s_2))
set_option maxRecDepth 20000 in
theorem c12_readTold_p46 {l : Launch} {D : va_G} {ad : Nat → Nat → Nat → Nat} {cid : Nat → Nat → Nat → ClassId} (σ : Mem) (q0 : Int32) : AW (XM l D ad cid) M12_readTold 5 eI [(0, .ref (ad 12 0 0))] 46 [.int q0] σ ((F12_readTold_p46 σ q0).bind some) := by
  unfold F12_readTold_p46
  refine aw_istore_n (ls' := [(0, .ref (ad 12 0 0)), (2, .int q0)]) [1, 0] dX12_readTold_46 rfl (by decide) rfl ?_
  refine aw_aload_n 0 dX12_readTold_47 rfl rfl ?_
  refine aw_getf (fg_12_12 (by decide)) ci_12 (by decide) w_1470 dX12_readTold_48 ?_
  refine aw_if_ne 67 dX12_readTold_51 (by decide) ?_ ?_
  · refine aw_aload_n 0 dX12_readTold_67 rfl rfl ?_
    refine aw_iconst 1 dX12_readTold_68 (by decide) ?_
    refine aw_callVW_U (c12_must σ true) (io_12 (by decide)) ci_12 (by decide) mk_12_must w_1762 w_64 w_1760 rfl rfl (Nat.le_of_ble_eq_true rfl) dX12_readTold_69 (fun _ s_2 => ?_)
    refine aw_iload_n 1 dX12_readTold_72 rfl rfl ?_
    exact aw_ireturn rfl dX12_readTold_73
  · refine aw_iload_n 1 dX12_readTold_54 rfl rfl ?_
    refine aw_if_ge 67 dX12_readTold_55 (by decide) ?_ ?_
    · refine aw_aload_n 0 dX12_readTold_67 rfl rfl ?_
      refine aw_iconst 1 dX12_readTold_68 (by decide) ?_
      refine aw_callVW_U (c12_must σ true) (io_12 (by decide)) ci_12 (by decide) mk_12_must w_1762 w_64 w_1760 rfl rfl (Nat.le_of_ble_eq_true rfl) dX12_readTold_69 (fun _ s_3 => ?_)
      refine aw_iload_n 1 dX12_readTold_72 rfl rfl ?_
      exact aw_ireturn rfl dX12_readTold_73
    · refine aw_aload_n 0 dX12_readTold_58 rfl rfl ?_
      refine aw_iconst 3 dX12_readTold_59 (by decide) ?_
      refine aw_aload_n 0 dX12_readTold_60 rfl rfl ?_
      refine aw_getf (fg_12_15 (by decide)) ci_12 (by decide) w_1473 dX12_readTold_61 ?_
      refine aw_callVW_U (c12_fail σ 3 (gI σ 12 0 0 15)) (io_12 (by decide)) ci_12 (by decide) mk_12_fail w_1743 w_60 w_1741 rfl rfl (Nat.le_of_ble_eq_true rfl) dX12_readTold_64 (fun _ s_4 => ?_)
      refine aw_aload_n 0 dX12_readTold_67 rfl rfl ?_
      refine aw_iconst 1 dX12_readTold_68 (by decide) ?_
      refine aw_callVW_U (c12_must s_4 true) (io_12 (by decide)) ci_12 (by decide) mk_12_must w_1762 w_64 w_1760 rfl rfl (Nat.le_of_ble_eq_true rfl) dX12_readTold_69 (fun _ s_5 => ?_)
      refine aw_iload_n 1 dX12_readTold_72 rfl rfl ?_
      exact aw_ireturn rfl dX12_readTold_73
def F12_readTold_p18 (σ : Mem) (z1 : Bool) : Option (Int32 × Mem) :=
  if (gI σ 12 0 0 12) ≤ 0 then (if z1 = true then ((F12_peaNamed σ 0).bind fun v_6 => F12_readTold_p46 σ v_6) else ((F12_shooterNamed σ 0).bind fun v_1 => F12_readTold_p46 σ v_1)) else (F12_readTold_p46 σ 0)
set_option maxRecDepth 20000 in
theorem c12_readTold_p18 {l : Launch} {D : va_G} {ad : Nat → Nat → Nat → Nat} {cid : Nat → Nat → Nat → ClassId} (σ : Mem) (z1 : Bool) : AW (XM l D ad cid) M12_readTold 5 eI [(0, .ref (ad 12 0 0)), (1, .int (b2i z1))] 18 [] σ ((F12_readTold_p18 σ z1).bind some) := by
  unfold F12_readTold_p18
  refine aw_aload_n 0 dX12_readTold_18 rfl rfl ?_
  refine aw_getf (fg_12_12 (by decide)) ci_12 (by decide) w_1470 dX12_readTold_19 ?_
  refine aw_if_le 29 dX12_readTold_22 (by decide) ?_ ?_
  · refine aw_iload_n 1 dX12_readTold_29 rfl rfl ?_
    refine aw_bif_eq 41 dX12_readTold_30 (by decide) ?_ ?_
    · refine aw_aload_n 0 dX12_readTold_41 rfl rfl ?_
      refine aw_iconst 0 dX12_readTold_42 (by decide) ?_
      refine aw_callVO_I (c12_shooterNamed σ 0) (io_12 (by decide)) ci_12 (by decide) mk_12_shooterNamed w_1872 w_91 w_1870 rfl rfl (Nat.le_of_ble_eq_true rfl) dX12_readTold_43 (fun v_1 => ?_)
      refine aw_ls (ls' := [(0, .ref (ad 12 0 0))]) [0] rfl ?_
      exact c12_readTold_p46 σ v_1
    · refine aw_aload_n 0 dX12_readTold_33 rfl rfl ?_
      refine aw_iconst 0 dX12_readTold_34 (by decide) ?_
      refine aw_callVO_I (c12_peaNamed σ 0) (io_12 (by decide)) ci_12 (by decide) mk_12_peaNamed w_1868 w_90 w_1866 rfl rfl (Nat.le_of_ble_eq_true rfl) dX12_readTold_35 (fun v_6 => ?_)
      refine aw_goto 46 dX12_readTold_38 (by decide) ?_
      refine aw_ls (ls' := [(0, .ref (ad 12 0 0))]) [0] rfl ?_
      exact c12_readTold_p46 σ v_6
  · refine aw_iconst 0 dX12_readTold_25 (by decide) ?_
    refine aw_goto 46 dX12_readTold_26 (by decide) ?_
    refine aw_ls (ls' := [(0, .ref (ad 12 0 0))]) [0] rfl ?_
    exact c12_readTold_p46 σ 0
def F12_readTold (σ : Mem) (z1 : Bool) : Option (Int32 × Mem) :=
  if (gI σ 12 0 0 12) = 0 then (if (F12_isName σ) = true then (F12_readTold_p18 σ z1) else (bd (F12_wrong σ) fun _ s_7 => F12_readTold_p18 s_7 z1)) else (F12_readTold_p18 σ z1)
set_option maxRecDepth 20000 in
theorem c12_readTold {l : Launch} {D : va_G} {ad : Nat → Nat → Nat → Nat} {cid : Nat → Nat → Nat → ClassId} (σ : Mem) (z1 : Bool) : AMF (XM l D ad cid) M12_readTold 5 eI [.ref (ad 12 0 0), .int (b2i z1)] σ (F12_readTold σ z1) := by
  refine AM.ofW (by decide +kernel) (Nat.le_of_ble_eq_true rfl) (ls := [(0, .ref (ad 12 0 0)), (1, .int (b2i z1))]) rfl ?_
  refine aw_entry ?_
  unfold F12_readTold
  refine aw_aload_n 0 dX12_readTold_0 rfl rfl ?_
  refine aw_getf (fg_12_12 (by decide)) ci_12 (by decide) w_1470 dX12_readTold_1 ?_
  refine aw_if_ne 18 dX12_readTold_4 (by decide) ?_ ?_
  · exact c12_readTold_p18 σ z1
  · refine aw_aload_n 0 dX12_readTold_7 rfl rfl ?_
    refine aw_callVT_B (c12_isName σ ) (io_12 (by decide)) ci_12 (by decide) mk_12_isName w_1810 w_76 w_1808 rfl rfl (Nat.le_of_ble_eq_true rfl) dX12_readTold_8 ?_
    refine aw_bif_ne 18 dX12_readTold_11 (by decide) ?_ ?_
    · exact c12_readTold_p18 σ z1
    · refine aw_aload_n 0 dX12_readTold_14 rfl rfl ?_
      refine aw_callVW_U (c12_wrong σ ) (io_12 (by decide)) ci_12 (by decide) mk_12_wrong w_1751 w_62 w_1749 rfl rfl (Nat.le_of_ble_eq_true rfl) dX12_readTold_15 (fun _ s_7 => ?_)
      exact c12_readTold_p18 s_7 z1
def F12_readAim_p65 (σ : Mem) (x1 : Int32) : Option (Unit × Mem) :=
  if (gI σ 12 0 0 12) = 0 then (if (F12_isLow σ) = true then ((ald 3000 (gI σ 12 0 5) (x1 + 2)).bind fun v_7 => chk 3000 (x1 + 2) <| bnd (sI σ 12 0 5 (Int32.toNatClampNeg (x1 + 2)) (-v_7)) fun s_8 => bd (F12_next s_8) fun _ s_9 => some ((), s_9)) else (some ((), σ))) else (some ((), σ))
set_option maxRecDepth 20000 in
theorem c12_readAim_p65 {l : Launch} {D : va_G} {ad : Nat → Nat → Nat → Nat} {cid : Nat → Nat → Nat → ClassId} (σ : Mem) (x1 : Int32) : AW (XM l D ad cid) M12_readAim 3 eU [(0, .ref (ad 12 0 0)), (1, .int x1)] 65 [] σ ((F12_readAim_p65 σ x1).bind some) := by
  unfold F12_readAim_p65
  refine aw_aload_n 0 dX12_readAim_65 rfl rfl ?_
  refine aw_getf (fg_12_12 (by decide)) ci_12 (by decide) w_1470 dX12_readAim_66 ?_
  refine aw_if_ne 100 dX12_readAim_69 (by decide) ?_ ?_
  · exact aw_return rfl dX12_readAim_100
  · refine aw_aload_n 0 dX12_readAim_72 rfl rfl ?_
    refine aw_callVT_B (c12_isLow σ ) (io_12 (by decide)) ci_12 (by decide) mk_12_isLow w_1848 w_85 w_1846 rfl rfl (Nat.le_of_ble_eq_true rfl) dX12_readAim_73 ?_
    refine aw_bif_eq 100 dX12_readAim_76 (by decide) ?_ ?_
    · exact aw_return rfl dX12_readAim_100
    · refine aw_aload_n 0 dX12_readAim_79 rfl rfl ?_
      refine aw_getf (fg_12_20 (by decide)) ci_12 (by decide) w_1478 dX12_readAim_80 ?_
      refine aw_iload_n 1 dX12_readAim_83 rfl rfl ?_
      refine aw_iconst 2 dX12_readAim_84 (by decide) ?_
      refine aw_iadd dX12_readAim_85 ?_
      refine aw_aload_n 0 dX12_readAim_86 rfl rfl ?_
      refine aw_getf (fg_12_20 (by decide)) ci_12 (by decide) w_1478 dX12_readAim_87 ?_
      refine aw_iload_n 1 dX12_readAim_90 rfl rfl ?_
      refine aw_iconst 2 dX12_readAim_91 (by decide) ?_
      refine aw_iadd dX12_readAim_92 ?_
      refine aw_iaload (ar_12_5 (by decide)) dX12_readAim_93 (fun v_7 => ?_)
      refine aw_ineg dX12_readAim_94 ?_
      refine aw_iastore (ar_12_5 (by decide)) dX12_readAim_95 ?_
      refine aw_bndM (fun s_8 => ?_)
      refine aw_aload_n 0 dX12_readAim_96 rfl rfl ?_
      refine aw_callVW_U (c12_next s_8 ) (io_12 (by decide)) ci_12 (by decide) mk_12_next w_1708 w_54 w_1706 rfl rfl (Nat.le_of_ble_eq_true rfl) dX12_readAim_97 (fun _ s_9 => ?_)
      exact aw_return rfl dX12_readAim_100
def F12_readAim (σ : Mem) (x1 : Int32) : Option (Unit × Mem) :=
  bd (F12_count σ 0 60) fun v_1 s_2 => chk 3000 (x1 + 1) <| bnd (sI s_2 12 0 5 (Int32.toNatClampNeg (x1 + 1)) v_1) fun s_3 => bd (F12_count s_3 0 60) fun v_4 s_5 => chk 3000 (x1 + 2) <| bnd (sI s_5 12 0 5 (Int32.toNatClampNeg (x1 + 2)) v_4) fun s_6 => if (gI s_6 12 0 0 12) = 0 then (if (F12_isLeft s_6) = true then ((ald 3000 (gI s_6 12 0 5) (x1 + 1)).bind fun v_10 => chk 3000 (x1 + 1) <| bnd (sI s_6 12 0 5 (Int32.toNatClampNeg (x1 + 1)) (-v_10)) fun s_11 => bd (F12_next s_11) fun _ s_12 => F12_readAim_p65 s_12 x1) else (F12_readAim_p65 s_6 x1)) else (F12_readAim_p65 s_6 x1)
set_option maxRecDepth 20000 in
theorem c12_readAim {l : Launch} {D : va_G} {ad : Nat → Nat → Nat → Nat} {cid : Nat → Nat → Nat → ClassId} (σ : Mem) (x1 : Int32) : AMF (XM l D ad cid) M12_readAim 3 eU [.ref (ad 12 0 0), .int x1] σ (F12_readAim σ x1) := by
  refine AM.ofW (by decide +kernel) (Nat.le_of_ble_eq_true rfl) (ls := [(0, .ref (ad 12 0 0)), (1, .int x1)]) rfl ?_
  refine aw_entry ?_
  unfold F12_readAim
  refine aw_aload_n 0 dX12_readAim_0 rfl rfl ?_
  refine aw_getf (fg_12_20 (by decide)) ci_12 (by decide) w_1478 dX12_readAim_1 ?_
  refine aw_iload_n 1 dX12_readAim_4 rfl rfl ?_
  refine aw_iconst 1 dX12_readAim_5 (by decide) ?_
  refine aw_iadd dX12_readAim_6 ?_
  refine aw_aload_n 0 dX12_readAim_7 rfl rfl ?_
  refine aw_iconst 0 dX12_readAim_8 (by decide) ?_
  refine aw_bipush 60 dX12_readAim_9 (by decide) ?_
  refine aw_callVW_I (c12_count σ 0 60) (io_12 (by decide)) ci_12 (by decide) mk_12_count w_1747 w_61 w_1745 rfl rfl (Nat.le_of_ble_eq_true rfl) dX12_readAim_11 (fun v_1 s_2 => ?_)
  refine aw_iastore (ar_12_5 (by decide)) dX12_readAim_14 ?_
  refine aw_bndM (fun s_3 => ?_)
  refine aw_aload_n 0 dX12_readAim_15 rfl rfl ?_
  refine aw_getf (fg_12_20 (by decide)) ci_12 (by decide) w_1478 dX12_readAim_16 ?_
  refine aw_iload_n 1 dX12_readAim_19 rfl rfl ?_
  refine aw_iconst 2 dX12_readAim_20 (by decide) ?_
  refine aw_iadd dX12_readAim_21 ?_
  refine aw_aload_n 0 dX12_readAim_22 rfl rfl ?_
  refine aw_iconst 0 dX12_readAim_23 (by decide) ?_
  refine aw_bipush 60 dX12_readAim_24 (by decide) ?_
  refine aw_callVW_I (c12_count s_3 0 60) (io_12 (by decide)) ci_12 (by decide) mk_12_count w_1747 w_61 w_1745 rfl rfl (Nat.le_of_ble_eq_true rfl) dX12_readAim_26 (fun v_4 s_5 => ?_)
  refine aw_iastore (ar_12_5 (by decide)) dX12_readAim_29 ?_
  refine aw_bndM (fun s_6 => ?_)
  refine aw_aload_n 0 dX12_readAim_30 rfl rfl ?_
  refine aw_getf (fg_12_12 (by decide)) ci_12 (by decide) w_1470 dX12_readAim_31 ?_
  refine aw_if_ne 65 dX12_readAim_34 (by decide) ?_ ?_
  · exact c12_readAim_p65 s_6 x1
  · refine aw_aload_n 0 dX12_readAim_37 rfl rfl ?_
    refine aw_callVT_B (c12_isLeft s_6 ) (io_12 (by decide)) ci_12 (by decide) mk_12_isLeft w_1782 w_69 w_1780 rfl rfl (Nat.le_of_ble_eq_true rfl) dX12_readAim_38 ?_
    refine aw_bif_eq 65 dX12_readAim_41 (by decide) ?_ ?_
    · exact c12_readAim_p65 s_6 x1
    · refine aw_aload_n 0 dX12_readAim_44 rfl rfl ?_
      refine aw_getf (fg_12_20 (by decide)) ci_12 (by decide) w_1478 dX12_readAim_45 ?_
      refine aw_iload_n 1 dX12_readAim_48 rfl rfl ?_
      refine aw_iconst 1 dX12_readAim_49 (by decide) ?_
      refine aw_iadd dX12_readAim_50 ?_
      refine aw_aload_n 0 dX12_readAim_51 rfl rfl ?_
      refine aw_getf (fg_12_20 (by decide)) ci_12 (by decide) w_1478 dX12_readAim_52 ?_
      refine aw_iload_n 1 dX12_readAim_55 rfl rfl ?_
      refine aw_iconst 1 dX12_readAim_56 (by decide) ?_
      refine aw_iadd dX12_readAim_57 ?_
      refine aw_iaload (ar_12_5 (by decide)) dX12_readAim_58 (fun v_10 => ?_)
      refine aw_ineg dX12_readAim_59 ?_
      refine aw_iastore (ar_12_5 (by decide)) dX12_readAim_60 ?_
      refine aw_bndM (fun s_11 => ?_)
      refine aw_aload_n 0 dX12_readAim_61 rfl rfl ?_
      refine aw_callVW_U (c12_next s_11 ) (io_12 (by decide)) ci_12 (by decide) mk_12_next w_1708 w_54 w_1706 rfl rfl (Nat.le_of_ble_eq_true rfl) dX12_readAim_62 (fun _ s_12 => ?_)
      exact c12_readAim_p65 s_12 x1
def F12_readTest_p111 (σ : Mem) (x1 : Int32) (x2 : Int32) (q1 : Bool) : Option (Unit × Mem) :=
  bd (F12_must σ q1) fun _ s_5 => if x2 = 0 then (bd (F12_count s_5 0 999) fun v_12 s_13 => chk 3000 (x1 + 2) <| bnd (sI s_13 12 0 5 (Int32.toNatClampNeg (x1 + 2)) v_12) fun s_14 => some ((), s_14)) else (if x2 = 1 then (bd (F12_count s_5 0 60) fun v_9 s_10 => chk 3000 (x1 + 2) <| bnd (sI s_10 12 0 5 (Int32.toNatClampNeg (x1 + 2)) v_9) fun s_11 => some ((), s_11)) else (bd (F12_count s_5 0 20) fun v_6 s_7 => chk 3000 (x1 + 2) <| bnd (sI s_7 12 0 5 (Int32.toNatClampNeg (x1 + 2)) v_6) fun s_8 => some ((), s_8)))
set_option maxRecDepth 20000 in
theorem c12_readTest_p111 {l : Launch} {D : va_G} {ad : Nat → Nat → Nat → Nat} {cid : Nat → Nat → Nat → ClassId} (σ : Mem) (x1 : Int32) (x2 : Int32) (q1 : Bool) : AW (XM l D ad cid) M12_readTest 6 eU [(0, .ref (ad 12 0 0)), (1, .int x1), (2, .int x2)] 111 [.int (b2i q1), .ref (ad 12 0 0)] σ ((F12_readTest_p111 σ x1 x2 q1).bind some) := by
  unfold F12_readTest_p111
  refine aw_callVW_U (c12_must σ q1) (io_12 (by decide)) ci_12 (by decide) mk_12_must w_1762 w_64 w_1760 rfl rfl (Nat.le_of_ble_eq_true rfl) dX12_readTest_111 (fun _ s_5 => ?_)
  refine aw_aload_n 0 dX12_readTest_114 rfl rfl ?_
  refine aw_getf (fg_12_20 (by decide)) ci_12 (by decide) w_1478 dX12_readTest_115 ?_
  refine aw_iload_n 1 dX12_readTest_118 rfl rfl ?_
  refine aw_iconst 2 dX12_readTest_119 (by decide) ?_
  refine aw_iadd dX12_readTest_120 ?_
  refine aw_aload_n 0 dX12_readTest_121 rfl rfl ?_
  refine aw_iconst 0 dX12_readTest_122 (by decide) ?_
  refine aw_iload_n 2 dX12_readTest_123 rfl rfl ?_
  refine aw_if_ne 133 dX12_readTest_124 (by decide) ?_ ?_
  · refine aw_iload_n 2 dX12_readTest_133 rfl rfl ?_
    refine aw_iconst 1 dX12_readTest_134 (by decide) ?_
    refine aw_icmp_ne 143 dX12_readTest_135 (by decide) ?_ ?_
    · refine aw_bipush 20 dX12_readTest_143 (by decide) ?_
      refine aw_callVW_I (c12_count s_5 0 20) (io_12 (by decide)) ci_12 (by decide) mk_12_count w_1747 w_61 w_1745 rfl rfl (Nat.le_of_ble_eq_true rfl) dX12_readTest_145 (fun v_6 s_7 => ?_)
      refine aw_iastore (ar_12_5 (by decide)) dX12_readTest_148 ?_
      refine aw_bndM (fun s_8 => ?_)
      exact aw_return rfl dX12_readTest_149
    · refine aw_bipush 60 dX12_readTest_138 (by decide) ?_
      refine aw_goto 145 dX12_readTest_140 (by decide) ?_
      refine aw_callVW_I (c12_count s_5 0 60) (io_12 (by decide)) ci_12 (by decide) mk_12_count w_1747 w_61 w_1745 rfl rfl (Nat.le_of_ble_eq_true rfl) dX12_readTest_145 (fun v_9 s_10 => ?_)
      refine aw_iastore (ar_12_5 (by decide)) dX12_readTest_148 ?_
      refine aw_bndM (fun s_11 => ?_)
      exact aw_return rfl dX12_readTest_149
  · refine aw_sipush 999 dX12_readTest_127 (by decide) ?_
    refine aw_goto 145 dX12_readTest_130 (by decide) ?_
    refine aw_callVW_I (c12_count s_5 0 999) (io_12 (by decide)) ci_12 (by decide) mk_12_count w_1747 w_61 w_1745 rfl rfl (Nat.le_of_ble_eq_true rfl) dX12_readTest_145 (fun v_12 s_13 => ?_)
    refine aw_iastore (ar_12_5 (by decide)) dX12_readTest_148 ?_
    refine aw_bndM (fun s_14 => ?_)
    exact aw_return rfl dX12_readTest_149
def F12_readTest_p77 (σ : Mem) (x1 : Int32) (x2 : Int32) (q1 : Int32) (q2 : Int32) : Option (Unit × Mem) :=
  chk 3000 q1 <| bnd (sI σ 12 0 5 (Int32.toNatClampNeg q1) q2) fun s_4 => if (F12_isSign s_4 60) = true then (F12_readTest_p111 s_4 x1 x2 true) else (if (F12_isSign s_4 62) = true then (F12_readTest_p111 s_4 x1 x2 true) else (if (F12_isSign s_4 61) = true then (F12_readTest_p111 s_4 x1 x2 true) else (F12_readTest_p111 s_4 x1 x2 false)))
set_option maxRecDepth 20000 in
theorem c12_readTest_p77 {l : Launch} {D : va_G} {ad : Nat → Nat → Nat → Nat} {cid : Nat → Nat → Nat → ClassId} (σ : Mem) (x1 : Int32) (x2 : Int32) (q1 : Int32) (q2 : Int32) : AW (XM l D ad cid) M12_readTest 6 eU [(0, .ref (ad 12 0 0)), (1, .int x1), (2, .int x2)] 77 [.int q2, .int q1, .ref (ad 12 0 5)] σ ((F12_readTest_p77 σ x1 x2 q1 q2).bind some) := by
  unfold F12_readTest_p77
  refine aw_iastore (ar_12_5 (by decide)) dX12_readTest_77 ?_
  refine aw_bndM (fun s_4 => ?_)
  refine aw_aload_n 0 dX12_readTest_78 rfl rfl ?_
  refine aw_aload_n 0 dX12_readTest_79 rfl rfl ?_
  refine aw_bipush 60 dX12_readTest_80 (by decide) ?_
  refine aw_callVT_B (c12_isSign s_4 60) (io_12 (by decide)) ci_12 (by decide) mk_12_isSign w_1880 w_93 w_1878 rfl rfl (Nat.le_of_ble_eq_true rfl) dX12_readTest_82 ?_
  refine aw_bif_ne 106 dX12_readTest_85 (by decide) ?_ ?_
  · refine aw_iconst 1 dX12_readTest_106 (by decide) ?_
    refine aw_goto 111 dX12_readTest_107 (by decide) ?_
    exact c12_readTest_p111 s_4 x1 x2 true
  · refine aw_aload_n 0 dX12_readTest_88 rfl rfl ?_
    refine aw_bipush 62 dX12_readTest_89 (by decide) ?_
    refine aw_callVT_B (c12_isSign s_4 62) (io_12 (by decide)) ci_12 (by decide) mk_12_isSign w_1880 w_93 w_1878 rfl rfl (Nat.le_of_ble_eq_true rfl) dX12_readTest_91 ?_
    refine aw_bif_ne 106 dX12_readTest_94 (by decide) ?_ ?_
    · refine aw_iconst 1 dX12_readTest_106 (by decide) ?_
      refine aw_goto 111 dX12_readTest_107 (by decide) ?_
      exact c12_readTest_p111 s_4 x1 x2 true
    · refine aw_aload_n 0 dX12_readTest_97 rfl rfl ?_
      refine aw_bipush 61 dX12_readTest_98 (by decide) ?_
      refine aw_callVT_B (c12_isSign s_4 61) (io_12 (by decide)) ci_12 (by decide) mk_12_isSign w_1880 w_93 w_1878 rfl rfl (Nat.le_of_ble_eq_true rfl) dX12_readTest_100 ?_
      refine aw_bif_eq 110 dX12_readTest_103 (by decide) ?_ ?_
      · refine aw_iconst 0 dX12_readTest_110 (by decide) ?_
        exact c12_readTest_p111 s_4 x1 x2 false
      · refine aw_iconst 1 dX12_readTest_106 (by decide) ?_
        refine aw_goto 111 dX12_readTest_107 (by decide) ?_
        exact c12_readTest_p111 s_4 x1 x2 true
def F12_readTest_p45 (σ : Mem) (x1 : Int32) (x2 : Int32) : Option (Unit × Mem) :=
  if (gI σ 12 0 0 12) ≤ 0 then (if (gI σ 12 0 0 14) = 3 then (F12_readTest_p77 σ x1 x2 (x1 + 7) (gI σ 12 0 0 17)) else (F12_readTest_p77 σ x1 x2 (x1 + 7) 0)) else (some ((), σ))
set_option maxRecDepth 20000 in
theorem c12_readTest_p45 {l : Launch} {D : va_G} {ad : Nat → Nat → Nat → Nat} {cid : Nat → Nat → Nat → ClassId} (σ : Mem) (x1 : Int32) (x2 : Int32) : AW (XM l D ad cid) M12_readTest 6 eU [(0, .ref (ad 12 0 0)), (1, .int x1), (2, .int x2)] 45 [] σ ((F12_readTest_p45 σ x1 x2).bind some) := by
  unfold F12_readTest_p45
  refine aw_aload_n 0 dX12_readTest_45 rfl rfl ?_
  refine aw_getf (fg_12_12 (by decide)) ci_12 (by decide) w_1470 dX12_readTest_46 ?_
  refine aw_if_le 53 dX12_readTest_49 (by decide) ?_ ?_
  · refine aw_aload_n 0 dX12_readTest_53 rfl rfl ?_
    refine aw_getf (fg_12_20 (by decide)) ci_12 (by decide) w_1478 dX12_readTest_54 ?_
    refine aw_iload_n 1 dX12_readTest_57 rfl rfl ?_
    refine aw_bipush 7 dX12_readTest_58 (by decide) ?_
    refine aw_iadd dX12_readTest_60 ?_
    refine aw_aload_n 0 dX12_readTest_61 rfl rfl ?_
    refine aw_getf (fg_12_14 (by decide)) ci_12 (by decide) w_1472 dX12_readTest_62 ?_
    refine aw_iconst 3 dX12_readTest_65 (by decide) ?_
    refine aw_icmp_ne 76 dX12_readTest_66 (by decide) ?_ ?_
    · refine aw_iconst 0 dX12_readTest_76 (by decide) ?_
      exact c12_readTest_p77 σ x1 x2 (x1 + 7) 0
    · refine aw_aload_n 0 dX12_readTest_69 rfl rfl ?_
      refine aw_getf (fg_12_17 (by decide)) ci_12 (by decide) w_1475 dX12_readTest_70 ?_
      refine aw_goto 77 dX12_readTest_73 (by decide) ?_
      exact c12_readTest_p77 σ x1 x2 (x1 + 7) (gI σ 12 0 0 17)
  · exact aw_return rfl dX12_readTest_52
def F12_readTest_p15 (σ : Mem) (x1 : Int32) (x2 : Int32) (q1 : Bool) : Option (Unit × Mem) :=
  bd (F12_must σ q1) fun _ s_2 => chk 3000 (x1 + 6) <| bnd (sI s_2 12 0 5 (Int32.toNatClampNeg (x1 + 6)) x2) fun s_3 => if x2 = 0 then (bd (F12_readTold s_3 false) fun v_15 s_16 => chk 3000 (x1 + 1) <| bnd (sI s_16 12 0 5 (Int32.toNatClampNeg (x1 + 1)) v_15) fun s_17 => F12_readTest_p45 s_17 x1 x2) else (F12_readTest_p45 s_3 x1 x2)
set_option maxRecDepth 20000 in
theorem c12_readTest_p15 {l : Launch} {D : va_G} {ad : Nat → Nat → Nat → Nat} {cid : Nat → Nat → Nat → ClassId} (σ : Mem) (x1 : Int32) (x2 : Int32) (q1 : Bool) : AW (XM l D ad cid) M12_readTest 6 eU [(0, .ref (ad 12 0 0)), (1, .int x1), (2, .int x2)] 15 [.int (b2i q1), .ref (ad 12 0 0)] σ ((F12_readTest_p15 σ x1 x2 q1).bind some) := by
  unfold F12_readTest_p15
  refine aw_callVW_U (c12_must σ q1) (io_12 (by decide)) ci_12 (by decide) mk_12_must w_1762 w_64 w_1760 rfl rfl (Nat.le_of_ble_eq_true rfl) dX12_readTest_15 (fun _ s_2 => ?_)
  refine aw_aload_n 0 dX12_readTest_18 rfl rfl ?_
  refine aw_getf (fg_12_20 (by decide)) ci_12 (by decide) w_1478 dX12_readTest_19 ?_
  refine aw_iload_n 1 dX12_readTest_22 rfl rfl ?_
  refine aw_bipush 6 dX12_readTest_23 (by decide) ?_
  refine aw_iadd dX12_readTest_25 ?_
  refine aw_iload_n 2 dX12_readTest_26 rfl rfl ?_
  refine aw_iastore (ar_12_5 (by decide)) dX12_readTest_27 ?_
  refine aw_bndM (fun s_3 => ?_)
  refine aw_iload_n 2 dX12_readTest_28 rfl rfl ?_
  refine aw_if_ne 45 dX12_readTest_29 (by decide) ?_ ?_
  · exact c12_readTest_p45 s_3 x1 x2
  · refine aw_aload_n 0 dX12_readTest_32 rfl rfl ?_
    refine aw_getf (fg_12_20 (by decide)) ci_12 (by decide) w_1478 dX12_readTest_33 ?_
    refine aw_iload_n 1 dX12_readTest_36 rfl rfl ?_
    refine aw_iconst 1 dX12_readTest_37 (by decide) ?_
    refine aw_iadd dX12_readTest_38 ?_
    refine aw_aload_n 0 dX12_readTest_39 rfl rfl ?_
    refine aw_iconst 0 dX12_readTest_40 (by decide) ?_
    refine aw_callVW_I (c12_readTold s_3 false) (io_12 (by decide)) ci_12 (by decide) mk_12_readTold w_1904 w_98 w_1902 rfl rfl (Nat.le_of_ble_eq_true rfl) dX12_readTest_41 (fun v_15 s_16 => ?_)
    refine aw_iastore (ar_12_5 (by decide)) dX12_readTest_44 ?_
    refine aw_bndM (fun s_17 => ?_)
    exact c12_readTest_p45 s_17 x1 x2
def F12_readTest (σ : Mem) (x1 : Int32) : Option (Unit × Mem) :=
  bnd (F12_testWord σ) fun v_1 => if v_1 < 0 then (F12_readTest_p15 σ x1 v_1 false) else (F12_readTest_p15 σ x1 v_1 true)
set_option maxRecDepth 20000 in
theorem c12_readTest {l : Launch} {D : va_G} {ad : Nat → Nat → Nat → Nat} {cid : Nat → Nat → Nat → ClassId} (σ : Mem) (x1 : Int32) : AMF (XM l D ad cid) M12_readTest 6 eU [.ref (ad 12 0 0), .int x1] σ (F12_readTest σ x1) := by
  refine AM.ofW (by decide +kernel) (Nat.le_of_ble_eq_true rfl) (ls := [(0, .ref (ad 12 0 0)), (1, .int x1)]) rfl ?_
  refine aw_entry ?_
  unfold F12_readTest
  refine aw_aload_n 0 dX12_readTest_0 rfl rfl ?_
  refine aw_callVT_I (c12_testWord σ ) (io_12 (by decide)) ci_12 (by decide) mk_12_testWord w_1860 w_88 w_1858 rfl rfl (Nat.le_of_ble_eq_true rfl) dX12_readTest_1 ?_
  refine aw_bnd_int (fun v_1 => ?_)
  refine aw_istore_n (ls' := [(0, .ref (ad 12 0 0)), (1, .int x1), (2, .int v_1)]) [1, 2, 0] dX12_readTest_4 rfl (by decide) rfl ?_
  refine aw_aload_n 0 dX12_readTest_5 rfl rfl ?_
  refine aw_iload_n 2 dX12_readTest_6 rfl rfl ?_
  refine aw_if_lt 14 dX12_readTest_7 (by decide) ?_ ?_
  · refine aw_iconst 0 dX12_readTest_14 (by decide) ?_
    exact c12_readTest_p15 σ x1 v_1 false
  · refine aw_iconst 1 dX12_readTest_10 (by decide) ?_
    refine aw_goto 15 dX12_readTest_11 (by decide) ?_
    exact c12_readTest_p15 σ x1 v_1 true
def F12_readRest (σ : Mem) (x1 : Int32) : Option (Unit × Mem) :=
  (ald 3000 (gI σ 12 0 5) x1).bind fun v_1 => if v_1 = 0 then (bd (F12_readTold σ true) fun v_16 s_17 => chk 3000 (x1 + 1) <| bnd (sI s_17 12 0 5 (Int32.toNatClampNeg (x1 + 1)) v_16) fun s_18 => some ((), s_18)) else (if v_1 = 1 then (bd (F12_readAim σ x1) fun _ s_15 => some ((), s_15)) else (if v_1 = 2 then (bd (F12_count σ 1 40) fun v_12 s_13 => chk 3000 (x1 + 1) <| bnd (sI s_13 12 0 5 (Int32.toNatClampNeg (x1 + 1)) v_12) fun s_14 => some ((), s_14)) else (if v_1 = 3 then (bd (F12_count σ 0 3) fun v_9 s_10 => chk 3000 (x1 + 1) <| bnd (sI s_10 12 0 5 (Int32.toNatClampNeg (x1 + 1)) v_9) fun s_11 => some ((), s_11)) else (if v_1 = 4 then (bd (F12_readTold σ false) fun v_6 s_7 => chk 3000 (x1 + 1) <| bnd (sI s_7 12 0 5 (Int32.toNatClampNeg (x1 + 1)) v_6) fun s_8 => some ((), s_8)) else (if v_1 = 7 then (bd (F12_readTest σ x1) fun _ s_5 => some ((), s_5)) else (if v_1 = 8 then (bd (F12_count σ 1 99) fun v_2 s_3 => chk 3000 (x1 + 1) <| bnd (sI s_3 12 0 5 (Int32.toNatClampNeg (x1 + 1)) v_2) fun s_4 => some ((), s_4)) else (some ((), σ))))))))
set_option maxRecDepth 20000 in
theorem c12_readRest {l : Launch} {D : va_G} {ad : Nat → Nat → Nat → Nat} {cid : Nat → Nat → Nat → ClassId} (σ : Mem) (x1 : Int32) : AMF (XM l D ad cid) M12_readRest 7 eU [.ref (ad 12 0 0), .int x1] σ (F12_readRest σ x1) := by
  refine AM.ofW (by decide +kernel) (Nat.le_of_ble_eq_true rfl) (ls := [(0, .ref (ad 12 0 0)), (1, .int x1)]) rfl ?_
  refine aw_entry ?_
  unfold F12_readRest
  refine aw_aload_n 0 dX12_readRest_0 rfl rfl ?_
  refine aw_getf (fg_12_20 (by decide)) ci_12 (by decide) w_1478 dX12_readRest_1 ?_
  refine aw_iload_n 1 dX12_readRest_4 rfl rfl ?_
  refine aw_iaload (ar_12_5 (by decide)) dX12_readRest_5 (fun v_1 => ?_)
  refine aw_istore_n (ls' := [(0, .ref (ad 12 0 0)), (1, .int x1), (2, .int v_1)]) [1, 2, 0] dX12_readRest_6 rfl (by decide) rfl ?_
  refine aw_iload_n 2 dX12_readRest_7 rfl rfl ?_
  refine aw_if_ne 27 dX12_readRest_8 (by decide) ?_ ?_
  · refine aw_iload_n 2 dX12_readRest_27 rfl rfl ?_
    refine aw_iconst 1 dX12_readRest_28 (by decide) ?_
    refine aw_icmp_ne 40 dX12_readRest_29 (by decide) ?_ ?_
    · refine aw_iload_n 2 dX12_readRest_40 rfl rfl ?_
      refine aw_iconst 2 dX12_readRest_41 (by decide) ?_
      refine aw_icmp_ne 63 dX12_readRest_42 (by decide) ?_ ?_
      · refine aw_iload_n 2 dX12_readRest_63 rfl rfl ?_
        refine aw_iconst 3 dX12_readRest_64 (by decide) ?_
        refine aw_icmp_ne 85 dX12_readRest_65 (by decide) ?_ ?_
        · refine aw_iload_n 2 dX12_readRest_85 rfl rfl ?_
          refine aw_iconst 4 dX12_readRest_86 (by decide) ?_
          refine aw_icmp_ne 106 dX12_readRest_87 (by decide) ?_ ?_
          · refine aw_iload_n 2 dX12_readRest_106 rfl rfl ?_
            refine aw_bipush 7 dX12_readRest_107 (by decide) ?_
            refine aw_icmp_ne 120 dX12_readRest_109 (by decide) ?_ ?_
            · refine aw_iload_n 2 dX12_readRest_120 rfl rfl ?_
              refine aw_bipush 8 dX12_readRest_121 (by decide) ?_
              refine aw_icmp_ne 141 dX12_readRest_123 (by decide) ?_ ?_
              · exact aw_return rfl dX12_readRest_141
              · refine aw_aload_n 0 dX12_readRest_126 rfl rfl ?_
                refine aw_getf (fg_12_20 (by decide)) ci_12 (by decide) w_1478 dX12_readRest_127 ?_
                refine aw_iload_n 1 dX12_readRest_130 rfl rfl ?_
                refine aw_iconst 1 dX12_readRest_131 (by decide) ?_
                refine aw_iadd dX12_readRest_132 ?_
                refine aw_aload_n 0 dX12_readRest_133 rfl rfl ?_
                refine aw_iconst 1 dX12_readRest_134 (by decide) ?_
                refine aw_bipush 99 dX12_readRest_135 (by decide) ?_
                refine aw_callVW_I (c12_count σ 1 99) (io_12 (by decide)) ci_12 (by decide) mk_12_count w_1747 w_61 w_1745 rfl rfl (Nat.le_of_ble_eq_true rfl) dX12_readRest_137 (fun v_2 s_3 => ?_)
                refine aw_iastore (ar_12_5 (by decide)) dX12_readRest_140 ?_
                refine aw_bndM (fun s_4 => ?_)
                exact aw_return rfl dX12_readRest_141
            · refine aw_aload_n 0 dX12_readRest_112 rfl rfl ?_
              refine aw_iload_n 1 dX12_readRest_113 rfl rfl ?_
              refine aw_callVW_U (c12_readTest σ x1) (io_12 (by decide)) ci_12 (by decide) mk_12_readTest w_1912 w_100 w_1910 rfl rfl (Nat.le_of_ble_eq_true rfl) dX12_readRest_114 (fun _ s_5 => ?_)
              refine aw_goto 141 dX12_readRest_117 (by decide) ?_
              exact aw_return rfl dX12_readRest_141
          · refine aw_aload_n 0 dX12_readRest_90 rfl rfl ?_
            refine aw_getf (fg_12_20 (by decide)) ci_12 (by decide) w_1478 dX12_readRest_91 ?_
            refine aw_iload_n 1 dX12_readRest_94 rfl rfl ?_
            refine aw_iconst 1 dX12_readRest_95 (by decide) ?_
            refine aw_iadd dX12_readRest_96 ?_
            refine aw_aload_n 0 dX12_readRest_97 rfl rfl ?_
            refine aw_iconst 0 dX12_readRest_98 (by decide) ?_
            refine aw_callVW_I (c12_readTold σ false) (io_12 (by decide)) ci_12 (by decide) mk_12_readTold w_1904 w_98 w_1902 rfl rfl (Nat.le_of_ble_eq_true rfl) dX12_readRest_99 (fun v_6 s_7 => ?_)
            refine aw_iastore (ar_12_5 (by decide)) dX12_readRest_102 ?_
            refine aw_bndM (fun s_8 => ?_)
            refine aw_goto 141 dX12_readRest_103 (by decide) ?_
            exact aw_return rfl dX12_readRest_141
        · refine aw_aload_n 0 dX12_readRest_68 rfl rfl ?_
          refine aw_getf (fg_12_20 (by decide)) ci_12 (by decide) w_1478 dX12_readRest_69 ?_
          refine aw_iload_n 1 dX12_readRest_72 rfl rfl ?_
          refine aw_iconst 1 dX12_readRest_73 (by decide) ?_
          refine aw_iadd dX12_readRest_74 ?_
          refine aw_aload_n 0 dX12_readRest_75 rfl rfl ?_
          refine aw_iconst 0 dX12_readRest_76 (by decide) ?_
          refine aw_iconst 3 dX12_readRest_77 (by decide) ?_
          refine aw_callVW_I (c12_count σ 0 3) (io_12 (by decide)) ci_12 (by decide) mk_12_count w_1747 w_61 w_1745 rfl rfl (Nat.le_of_ble_eq_true rfl) dX12_readRest_78 (fun v_9 s_10 => ?_)
          refine aw_iastore (ar_12_5 (by decide)) dX12_readRest_81 ?_
          refine aw_bndM (fun s_11 => ?_)
          refine aw_goto 141 dX12_readRest_82 (by decide) ?_
          exact aw_return rfl dX12_readRest_141
      · refine aw_aload_n 0 dX12_readRest_45 rfl rfl ?_
        refine aw_getf (fg_12_20 (by decide)) ci_12 (by decide) w_1478 dX12_readRest_46 ?_
        refine aw_iload_n 1 dX12_readRest_49 rfl rfl ?_
        refine aw_iconst 1 dX12_readRest_50 (by decide) ?_
        refine aw_iadd dX12_readRest_51 ?_
        refine aw_aload_n 0 dX12_readRest_52 rfl rfl ?_
        refine aw_iconst 1 dX12_readRest_53 (by decide) ?_
        refine aw_bipush 40 dX12_readRest_54 (by decide) ?_
        refine aw_callVW_I (c12_count σ 1 40) (io_12 (by decide)) ci_12 (by decide) mk_12_count w_1747 w_61 w_1745 rfl rfl (Nat.le_of_ble_eq_true rfl) dX12_readRest_56 (fun v_12 s_13 => ?_)
        refine aw_iastore (ar_12_5 (by decide)) dX12_readRest_59 ?_
        refine aw_bndM (fun s_14 => ?_)
        refine aw_goto 141 dX12_readRest_60 (by decide) ?_
        exact aw_return rfl dX12_readRest_141
    · refine aw_aload_n 0 dX12_readRest_32 rfl rfl ?_
      refine aw_iload_n 1 dX12_readRest_33 rfl rfl ?_
      refine aw_callVW_U (c12_readAim σ x1) (io_12 (by decide)) ci_12 (by decide) mk_12_readAim w_1908 w_99 w_1906 rfl rfl (Nat.le_of_ble_eq_true rfl) dX12_readRest_34 (fun _ s_15 => ?_)
      refine aw_goto 141 dX12_readRest_37 (by decide) ?_
      exact aw_return rfl dX12_readRest_141
  · refine aw_aload_n 0 dX12_readRest_11 rfl rfl ?_
    refine aw_getf (fg_12_20 (by decide)) ci_12 (by decide) w_1478 dX12_readRest_12 ?_
    refine aw_iload_n 1 dX12_readRest_15 rfl rfl ?_
    refine aw_iconst 1 dX12_readRest_16 (by decide) ?_
    refine aw_iadd dX12_readRest_17 ?_
    refine aw_aload_n 0 dX12_readRest_18 rfl rfl ?_
    refine aw_iconst 1 dX12_readRest_19 (by decide) ?_
    refine aw_callVW_I (c12_readTold σ true) (io_12 (by decide)) ci_12 (by decide) mk_12_readTold w_1904 w_98 w_1902 rfl rfl (Nat.le_of_ble_eq_true rfl) dX12_readRest_20 (fun v_16 s_17 => ?_)
    refine aw_iastore (ar_12_5 (by decide)) dX12_readRest_23 ?_
    refine aw_bndM (fun s_18 => ?_)
    refine aw_goto 141 dX12_readRest_24 (by decide) ?_
    exact aw_return rfl dX12_readRest_141
