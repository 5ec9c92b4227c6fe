def F12_status (σ : Mem)  : Option (Int32 × Mem) :=
  bnd (sI σ 12 0 0 1 0) fun s_1 => some ((gI s_1 12 0 0 0), s_1)
set_option maxRecDepth 20000 in
theorem c12_status {l : Launch} {D : va_G} {ad : Nat → Nat → Nat → Nat} {cid : Nat → Nat → Nat → ClassId} (σ : Mem)  : AMF (XM l D ad cid) M12_status 0 eI [.ref (ad 12 0 0)] σ (F12_status σ) := by
  refine AM.ofW (by decide +kernel) (Nat.le_of_ble_eq_true rfl) (ls := [(0, .ref (ad 12 0 0))]) rfl ?_
  refine aw_entry ?_
  unfold F12_status
  refine aw_aload_n 0 dX12_status_0 rfl rfl ?_
  refine aw_iconst 0 dX12_status_1 (by decide) ?_
  refine aw_putI (fs_12_1 (by decide)) ci_12 (by decide) rfl rfl w_1459 dX12_status_2 ?_
  refine aw_bndM (fun s_1 => ?_)
  refine aw_aload_n 0 dX12_status_5 rfl rfl ?_
  refine aw_getf (fg_12_0 (by decide)) ci_12 (by decide) w_1458 dX12_status_6 ?_
  exact aw_ireturn rfl dX12_status_9
def F12_top (σ : Mem)  : Option (Int64 × Mem) :=
  bnd (sI σ 12 0 0 1 0) fun s_1 => some ((gL s_1 12 0 0 2), s_1)
set_option maxRecDepth 20000 in
theorem c12_top {l : Launch} {D : va_G} {ad : Nat → Nat → Nat → Nat} {cid : Nat → Nat → Nat → ClassId} (σ : Mem)  : AMF (XM l D ad cid) M12_top 0 eL [.ref (ad 12 0 0)] σ (F12_top σ) := by
  refine AM.ofW (by decide +kernel) (Nat.le_of_ble_eq_true rfl) (ls := [(0, .ref (ad 12 0 0))]) rfl ?_
  refine aw_entry ?_
  unfold F12_top
  refine aw_aload_n 0 dX12_top_0 rfl rfl ?_
  refine aw_iconst 0 dX12_top_1 (by decide) ?_
  refine aw_putI (fs_12_1 (by decide)) ci_12 (by decide) rfl rfl w_1459 dX12_top_2 ?_
  refine aw_bndM (fun s_1 => ?_)
  refine aw_aload_n 0 dX12_top_5 rfl rfl ?_
  refine aw_getf (fg_12_2 (by decide)) ci_12 (by decide) w_1460 dX12_top_6 ?_
  exact aw_lreturn rfl dX12_top_9
def F12_bottom (σ : Mem)  : Option (Int64 × Mem) :=
  bnd (sI σ 12 0 0 1 0) fun s_1 => some ((gL s_1 12 0 0 3), s_1)
set_option maxRecDepth 20000 in
theorem c12_bottom {l : Launch} {D : va_G} {ad : Nat → Nat → Nat → Nat} {cid : Nat → Nat → Nat → ClassId} (σ : Mem)  : AMF (XM l D ad cid) M12_bottom 0 eL [.ref (ad 12 0 0)] σ (F12_bottom σ) := by
  refine AM.ofW (by decide +kernel) (Nat.le_of_ble_eq_true rfl) (ls := [(0, .ref (ad 12 0 0))]) rfl ?_
  refine aw_entry ?_
  unfold F12_bottom
  refine aw_aload_n 0 dX12_bottom_0 rfl rfl ?_
  refine aw_iconst 0 dX12_bottom_1 (by decide) ?_
  refine aw_putI (fs_12_1 (by decide)) ci_12 (by decide) rfl rfl w_1459 dX12_bottom_2 ?_
  refine aw_bndM (fun s_1 => ?_)
  refine aw_aload_n 0 dX12_bottom_5 rfl rfl ?_
  refine aw_getf (fg_12_3 (by decide)) ci_12 (by decide) w_1461 dX12_bottom_6 ?_
  exact aw_lreturn rfl dX12_bottom_9
def F12_no (σ : Mem) (x1 : Int32) : Option (Bool × Mem) :=
  bnd (sI σ 12 0 0 0 x1) fun s_1 => some (false, s_1)
set_option maxRecDepth 20000 in
theorem c12_no {l : Launch} {D : va_G} {ad : Nat → Nat → Nat → Nat} {cid : Nat → Nat → Nat → ClassId} (σ : Mem) (x1 : Int32) : AMF (XM l D ad cid) M12_no 0 eB [.ref (ad 12 0 0), .int x1] σ (F12_no σ x1) := by
  refine AM.ofW (by decide +kernel) (Nat.le_of_ble_eq_true rfl) (ls := [(0, .ref (ad 12 0 0)), (1, .int x1)]) rfl ?_
  refine aw_entry ?_
  unfold F12_no
  refine aw_aload_n 0 dX12_no_0 rfl rfl ?_
  refine aw_iload_n 1 dX12_no_1 rfl rfl ?_
  refine aw_putI (fs_12_0 (by decide)) ci_12 (by decide) rfl rfl w_1458 dX12_no_2 ?_
  refine aw_bndM (fun s_1 => ?_)
  refine aw_iconst 0 dX12_no_5 (by decide) ?_
  exact aw_zreturn (b := false) rfl rfl dX12_no_6
def F12_tray_L74 (x1 : Int32) (x3 : Int32) : Nat → Mem → Int32 → Option ((Unit) × Mem)
  | 0 => fun _ _ => none
  | n + 1 => fun σ x4 =>
    if x3 ≤ x4 then (some ((), σ)) else (chk 240 ((60 * x1) + x4) <| bnd (sL σ 12 0 3 (Int32.toNatClampNeg ((60 * x1) + x4)) 0) fun s_11 => (F12_tray_L74 x1 x3 n) s_11 (x4 + 1))
set_option maxRecDepth 20000 in
theorem c12_tray_L74 {l : Launch} {D : va_G} {ad : Nat → Nat → Nat → Nat} {cid : Nat → Nat → Nat → ClassId} {α : Type} {emb : α → Option Value} (x1 : Int32) (x3 : Int32) {G : Unit → Mem → Option (α × Mem)} (kx : ∀ r σ, AW (XM l D ad cid) M12_tray 1 emb [] 99 [] σ (G r σ)) : ∀ (n : Nat) (σ : Mem) (x4 : Int32), AW (XM l D ad cid) M12_tray 1 emb [(0, .ref (ad 12 0 0)), (1, .int x1), (3, .int x3), (4, .int x4)] 74 [] σ (bd (F12_tray_L74 x1 x3 n σ x4) G) := by
  intro n
  induction n with
  | zero => intros; exact aw_none
  | succ n ih =>
    intro σ x4
    refine aw_bdB ?_
    rw [F12_tray_L74.eq_2]
    refine aw_iload 3 dX12_tray_74 rfl ?_
    refine aw_iload_n 2 dX12_tray_76 rfl rfl ?_
    refine aw_icmp_ge 99 dX12_tray_77 (by decide) ?_ ?_
    · refine aw_ls (ls' := []) [] rfl ?_
      exact kx () σ
    · refine aw_aload_n 0 dX12_tray_80 rfl rfl ?_
      refine aw_getf (fg_12_6 (by decide)) ci_12 (by decide) w_1464 dX12_tray_81 ?_
      refine aw_bipush 60 dX12_tray_84 (by decide) ?_
      refine aw_iload_n 1 dX12_tray_86 rfl rfl ?_
      refine aw_imul dX12_tray_87 ?_
      refine aw_iload 3 dX12_tray_88 rfl ?_
      refine aw_iadd dX12_tray_90 ?_
      refine aw_lconst 0 dX12_tray_91 (by decide) ?_
      refine aw_lastore (ar_12_3 (by decide)) dX12_tray_92 ?_
      refine aw_bndM (fun s_11 => ?_)
      refine aw_iinc (ls' := [(0, .ref (ad 12 0 0)), (1, .int x1), (3, .int x3), (4, .int (x4 + 1))]) (x4 + 1) 3 [1, 2, 3, 0] dX12_tray_93 rfl (by rfl) (by decide) rfl ?_
      refine aw_goto 74 dX12_tray_96 (by decide) ?_
      exact ih s_11 (x4 + 1)
def F12_tray (σ : Mem) (x1 : Int32) (x2 : Int32) (x3 : Int32) : Option (Bool × Mem) :=
  bnd (sI σ 12 0 0 1 0) fun s_1 => bnd (sI s_1 12 0 0 0 0) fun s_2 => if x1 < 0 then (bd (F12_no s_2 1) fun v_3 s_4 => some (v_3, s_4)) else (if 4 ≤ x1 then (bd (F12_no s_2 1) fun v_5 s_6 => some (v_5, s_6)) else (if x2 < 0 then (bd (F12_no s_2 1) fun v_7 s_8 => some (v_7, s_8)) else (if x2 ≤ 3 then (if x3 ≤ 60 then (if 0 ≤ x3 then (chk 4 x1 <| bnd (sI s_2 12 0 1 (Int32.toNatClampNeg x1) x2) fun s_9 => chk 4 x1 <| bnd (sI s_9 12 0 2 (Int32.toNatClampNeg x1) x3) fun s_10 => bd (F12_tray_L74 x1 x3 fuelK s_10 0) fun r_12 s_13 => some (true, s_13)) else (bd (F12_no s_2 6) fun v_14 s_15 => some (v_14, s_15))) else (bd (F12_no s_2 5) fun v_16 s_17 => some (v_16, s_17))) else (bd (F12_no s_2 1) fun v_18 s_19 => some (v_18, s_19)))))
set_option maxRecDepth 20000 in
theorem c12_tray {l : Launch} {D : va_G} {ad : Nat → Nat → Nat → Nat} {cid : Nat → Nat → Nat → ClassId} (σ : Mem) (x1 : Int32) (x2 : Int32) (x3 : Int32) : AMF (XM l D ad cid) M12_tray 1 eB [.ref (ad 12 0 0), .int x1, .int x2, .int x3] σ (F12_tray σ x1 x2 x3) := by
  refine AM.ofW (by decide +kernel) (Nat.le_of_ble_eq_true rfl) (ls := [(0, .ref (ad 12 0 0)), (1, .int x1), (2, .int x2), (3, .int x3)]) rfl ?_
  refine aw_entry ?_
  unfold F12_tray
  refine aw_aload_n 0 dX12_tray_0 rfl rfl ?_
  refine aw_iconst 0 dX12_tray_1 (by decide) ?_
  refine aw_putI (fs_12_1 (by decide)) ci_12 (by decide) rfl rfl w_1459 dX12_tray_2 ?_
  refine aw_bndM (fun s_1 => ?_)
  refine aw_aload_n 0 dX12_tray_5 rfl rfl ?_
  refine aw_iconst 0 dX12_tray_6 (by decide) ?_
  refine aw_putI (fs_12_0 (by decide)) ci_12 (by decide) rfl rfl w_1458 dX12_tray_7 ?_
  refine aw_bndM (fun s_2 => ?_)
  refine aw_iload_n 1 dX12_tray_10 rfl rfl ?_
  refine aw_if_lt 28 dX12_tray_11 (by decide) ?_ ?_
  · refine aw_aload_n 0 dX12_tray_28 rfl rfl ?_
    refine aw_iconst 1 dX12_tray_29 (by decide) ?_
    refine aw_callVW_B (c12_no s_2 1) (io_12 (by decide)) ci_12 (by decide) mk_12_no w_1660 w_49 w_1658 rfl rfl (Nat.le_of_ble_eq_true rfl) dX12_tray_30 (fun v_3 s_4 => ?_)
    exact aw_zreturn (b := v_3) rfl rfl dX12_tray_33
  · refine aw_iload_n 1 dX12_tray_14 rfl rfl ?_
    refine aw_iconst 4 dX12_tray_15 (by decide) ?_
    refine aw_icmp_ge 28 dX12_tray_16 (by decide) ?_ ?_
    · refine aw_aload_n 0 dX12_tray_28 rfl rfl ?_
      refine aw_iconst 1 dX12_tray_29 (by decide) ?_
      refine aw_callVW_B (c12_no s_2 1) (io_12 (by decide)) ci_12 (by decide) mk_12_no w_1660 w_49 w_1658 rfl rfl (Nat.le_of_ble_eq_true rfl) dX12_tray_30 (fun v_5 s_6 => ?_)
      exact aw_zreturn (b := v_5) rfl rfl dX12_tray_33
    · refine aw_iload_n 2 dX12_tray_19 rfl rfl ?_
      refine aw_if_lt 28 dX12_tray_20 (by decide) ?_ ?_
      · refine aw_aload_n 0 dX12_tray_28 rfl rfl ?_
        refine aw_iconst 1 dX12_tray_29 (by decide) ?_
        refine aw_callVW_B (c12_no s_2 1) (io_12 (by decide)) ci_12 (by decide) mk_12_no w_1660 w_49 w_1658 rfl rfl (Nat.le_of_ble_eq_true rfl) dX12_tray_30 (fun v_7 s_8 => ?_)
        exact aw_zreturn (b := v_7) rfl rfl dX12_tray_33
      · refine aw_iload_n 2 dX12_tray_23 rfl rfl ?_
        refine aw_iconst 3 dX12_tray_24 (by decide) ?_
        refine aw_icmp_le 34 dX12_tray_25 (by decide) ?_ ?_
        · refine aw_iload_n 3 dX12_tray_34 rfl rfl ?_
          refine aw_bipush 60 dX12_tray_35 (by decide) ?_
          refine aw_icmp_le 46 dX12_tray_37 (by decide) ?_ ?_
          · refine aw_iload_n 3 dX12_tray_46 rfl rfl ?_
            refine aw_if_ge 57 dX12_tray_47 (by decide) ?_ ?_
            · refine aw_aload_n 0 dX12_tray_57 rfl rfl ?_
              refine aw_getf (fg_12_4 (by decide)) ci_12 (by decide) w_1462 dX12_tray_58 ?_
              refine aw_iload_n 1 dX12_tray_61 rfl rfl ?_
              refine aw_iload_n 2 dX12_tray_62 rfl rfl ?_
              refine aw_iastore (ar_12_1 (by decide)) dX12_tray_63 ?_
              refine aw_bndM (fun s_9 => ?_)
              refine aw_aload_n 0 dX12_tray_64 rfl rfl ?_
              refine aw_getf (fg_12_5 (by decide)) ci_12 (by decide) w_1463 dX12_tray_65 ?_
              refine aw_iload_n 1 dX12_tray_68 rfl rfl ?_
              refine aw_iload_n 3 dX12_tray_69 rfl rfl ?_
              refine aw_iastore (ar_12_2 (by decide)) dX12_tray_70 ?_
              refine aw_bndM (fun s_10 => ?_)
              refine aw_iconst 0 dX12_tray_71 (by decide) ?_
              refine aw_istore (ls' := [(0, .ref (ad 12 0 0)), (1, .int x1), (3, .int x3), (4, .int 0)]) [1, 2, 4, 0] dX12_tray_72 (by decide) rfl ?_
              refine aw_assocW ?_
              refine c12_tray_L74 x1 x3 (fun r_12 s_13 => ?_) fuelK s_10 0
              refine aw_iconst 1 dX12_tray_99 (by decide) ?_
              exact aw_zreturn (b := true) rfl rfl dX12_tray_100
            · refine aw_aload_n 0 dX12_tray_50 rfl rfl ?_
              refine aw_bipush 6 dX12_tray_51 (by decide) ?_
              refine aw_callVW_B (c12_no s_2 6) (io_12 (by decide)) ci_12 (by decide) mk_12_no w_1660 w_49 w_1658 rfl rfl (Nat.le_of_ble_eq_true rfl) dX12_tray_53 (fun v_14 s_15 => ?_)
              exact aw_zreturn (b := v_14) rfl rfl dX12_tray_56
          · refine aw_aload_n 0 dX12_tray_40 rfl rfl ?_
            refine aw_iconst 5 dX12_tray_41 (by decide) ?_
            refine aw_callVW_B (c12_no s_2 5) (io_12 (by decide)) ci_12 (by decide) mk_12_no w_1660 w_49 w_1658 rfl rfl (Nat.le_of_ble_eq_true rfl) dX12_tray_42 (fun v_16 s_17 => ?_)
            exact aw_zreturn (b := v_16) rfl rfl dX12_tray_45
        · refine aw_aload_n 0 dX12_tray_28 rfl rfl ?_
          refine aw_iconst 1 dX12_tray_29 (by decide) ?_
          refine aw_callVW_B (c12_no s_2 1) (io_12 (by decide)) ci_12 (by decide) mk_12_no w_1660 w_49 w_1658 rfl rfl (Nat.le_of_ble_eq_true rfl) dX12_tray_30 (fun v_18 s_19 => ?_)
          exact aw_zreturn (b := v_18) rfl rfl dX12_tray_33
def F12_trayed (σ : Mem) (x1 : Int32) : Option Int32 :=
  if x1 < 0 then (some 1) else (if x1 < 4 then ((ald 4 (gI σ 12 0 2) x1).bind fun v_1 => if 0 ≤ v_1 then (some 0) else (some 3)) else (some 1))
set_option maxRecDepth 20000 in
theorem c12_trayed {l : Launch} {D : va_G} {ad : Nat → Nat → Nat → Nat} {cid : Nat → Nat → Nat → ClassId} (σ : Mem) (x1 : Int32) : AMF (XM l D ad cid) M12_trayed 0 eI [.ref (ad 12 0 0), .int x1] σ (oM σ (F12_trayed σ x1)) := by
  refine AM.ofW (by decide +kernel) (Nat.le_of_ble_eq_true rfl) (ls := [(0, .ref (ad 12 0 0)), (1, .int x1)]) rfl ?_
  refine aw_entryO ?_
  unfold F12_trayed
  refine aw_iload_n 1 dX12_trayed_0 rfl rfl ?_
  refine aw_if_lt 9 dX12_trayed_1 (by decide) ?_ ?_
  · refine aw_iconst 1 dX12_trayed_9 (by decide) ?_
    refine aw_goto 27 dX12_trayed_10 (by decide) ?_
    exact aw_ireturn rfl dX12_trayed_27
  · refine aw_iload_n 1 dX12_trayed_4 rfl rfl ?_
    refine aw_iconst 4 dX12_trayed_5 (by decide) ?_
    refine aw_icmp_lt 13 dX12_trayed_6 (by decide) ?_ ?_
    · refine aw_aload_n 0 dX12_trayed_13 rfl rfl ?_
      refine aw_getf (fg_12_5 (by decide)) ci_12 (by decide) w_1463 dX12_trayed_14 ?_
      refine aw_iload_n 1 dX12_trayed_17 rfl rfl ?_
      refine aw_iaload (ar_12_2 (by decide)) dX12_trayed_18 (fun v_1 => ?_)
      refine aw_if_ge 26 dX12_trayed_19 (by decide) ?_ ?_
      · refine aw_iconst 0 dX12_trayed_26 (by decide) ?_
        exact aw_ireturn rfl dX12_trayed_27
      · refine aw_iconst 3 dX12_trayed_22 (by decide) ?_
        refine aw_goto 27 dX12_trayed_23 (by decide) ?_
        exact aw_ireturn rfl dX12_trayed_27
    · refine aw_iconst 1 dX12_trayed_9 (by decide) ?_
      refine aw_goto 27 dX12_trayed_10 (by decide) ?_
      exact aw_ireturn rfl dX12_trayed_27
def F12_placed (σ : Mem) (x1 : Int32) (x2 : Int32) : Option Int32 :=
  (F12_trayed σ x1).bind fun v_1 => if v_1 ≤ 0 then (if x2 < 0 then (some 4) else ((ald 4 (gI σ 12 0 2) x1).bind fun v_2 => if x2 < v_2 then (some 0) else (some 4))) else (some v_1)
set_option maxRecDepth 20000 in
theorem c12_placed {l : Launch} {D : va_G} {ad : Nat → Nat → Nat → Nat} {cid : Nat → Nat → Nat → ClassId} (σ : Mem) (x1 : Int32) (x2 : Int32) : AMF (XM l D ad cid) M12_placed 1 eI [.ref (ad 12 0 0), .int x1, .int x2] σ (oM σ (F12_placed σ x1 x2)) := by
  refine AM.ofW (by decide +kernel) (Nat.le_of_ble_eq_true rfl) (ls := [(0, .ref (ad 12 0 0)), (1, .int x1), (2, .int x2)]) rfl ?_
  refine aw_entryO ?_
  unfold F12_placed
  refine aw_aload_n 0 dX12_placed_0 rfl rfl ?_
  refine aw_iload_n 1 dX12_placed_1 rfl rfl ?_
  refine aw_callVO_I (c12_trayed σ x1) (io_12 (by decide)) ci_12 (by decide) mk_12_trayed w_1672 w_51 w_1670 rfl rfl (Nat.le_of_ble_eq_true rfl) dX12_placed_2 (fun v_1 => ?_)
  refine aw_istore_n (ls' := [(0, .ref (ad 12 0 0)), (1, .int x1), (2, .int x2), (3, .int v_1)]) [1, 2, 3, 0] dX12_placed_5 rfl (by decide) rfl ?_
  refine aw_iload_n 3 dX12_placed_6 rfl rfl ?_
  refine aw_if_le 14 dX12_placed_7 (by decide) ?_ ?_
  · refine aw_iload_n 2 dX12_placed_14 rfl rfl ?_
    refine aw_if_lt 28 dX12_placed_15 (by decide) ?_ ?_
    · refine aw_iconst 4 dX12_placed_28 (by decide) ?_
      refine aw_goto 33 dX12_placed_29 (by decide) ?_
      exact aw_ireturn rfl dX12_placed_33
    · refine aw_iload_n 2 dX12_placed_18 rfl rfl ?_
      refine aw_aload_n 0 dX12_placed_19 rfl rfl ?_
      refine aw_getf (fg_12_5 (by decide)) ci_12 (by decide) w_1463 dX12_placed_20 ?_
      refine aw_iload_n 1 dX12_placed_23 rfl rfl ?_
      refine aw_iaload (ar_12_2 (by decide)) dX12_placed_24 (fun v_2 => ?_)
      refine aw_icmp_lt 32 dX12_placed_25 (by decide) ?_ ?_
      · refine aw_iconst 0 dX12_placed_32 (by decide) ?_
        exact aw_ireturn rfl dX12_placed_33
      · refine aw_iconst 4 dX12_placed_28 (by decide) ?_
        refine aw_goto 33 dX12_placed_29 (by decide) ?_
        exact aw_ireturn rfl dX12_placed_33
  · refine aw_iload_n 3 dX12_placed_10 rfl rfl ?_
    refine aw_goto 33 dX12_placed_11 (by decide) ?_
    exact aw_ireturn rfl dX12_placed_33
def F12_cut (x0 : Int32) (y1 : Int64) : Int64 :=
  if x0 = 0 then ((Int32.toInt64 (Int8.toInt32 (Int32.toInt8 (Int64.toInt32 y1))))) else (if x0 = 1 then ((Int32.toInt64 (Int16.toInt32 (Int32.toInt16 (Int64.toInt32 y1))))) else (if x0 = 2 then ((Int32.toInt64 (Int64.toInt32 y1))) else (y1)))
set_option maxRecDepth 20000 in
theorem c12_cut {l : Launch} {D : va_G} {ad : Nat → Nat → Nat → Nat} {cid : Nat → Nat → Nat → ClassId} (σ : Mem) (x0 : Int32) (y1 : Int64) : AMF (XM l D ad cid) M12_cut 0 eL [.int x0, .long y1] σ (some (F12_cut x0 y1, σ)) := by
  refine AM.ofW (by decide +kernel) (Nat.le_of_ble_eq_true rfl) (ls := [(0, .int x0), (1, .long y1)]) rfl ?_
  refine aw_entryT ?_
  unfold F12_cut
  refine aw_iload_n 0 dX12_cut_0 rfl rfl ?_
  refine aw_iteT ?_
  refine aw_if_ne 11 dX12_cut_1 (by decide) ?_ ?_
  · refine aw_iload_n 0 dX12_cut_11 rfl rfl ?_
    refine aw_iconst 1 dX12_cut_12 (by decide) ?_
    refine aw_iteT ?_
    refine aw_icmp_ne 23 dX12_cut_13 (by decide) ?_ ?_
    · refine aw_iload_n 0 dX12_cut_23 rfl rfl ?_
      refine aw_iconst 2 dX12_cut_24 (by decide) ?_
      refine aw_iteT ?_
      refine aw_icmp_ne 34 dX12_cut_25 (by decide) ?_ ?_
      · refine aw_lload_n 1 dX12_cut_34 rfl rfl ?_
        exact aw_lreturn rfl dX12_cut_35
      · refine aw_lload_n 1 dX12_cut_28 rfl rfl ?_
        refine aw_l2i dX12_cut_29 ?_
        refine aw_i2l dX12_cut_30 ?_
        refine aw_goto 35 dX12_cut_31 (by decide) ?_
        exact aw_lreturn rfl dX12_cut_35
    · refine aw_lload_n 1 dX12_cut_16 rfl rfl ?_
      refine aw_l2i dX12_cut_17 ?_
      refine aw_i2s dX12_cut_18 ?_
      refine aw_i2l dX12_cut_19 ?_
      refine aw_goto 35 dX12_cut_20 (by decide) ?_
      exact aw_lreturn rfl dX12_cut_35
  · refine aw_lload_n 1 dX12_cut_4 rfl rfl ?_
    refine aw_l2i dX12_cut_5 ?_
    refine aw_i2b dX12_cut_6 ?_
    refine aw_i2l dX12_cut_7 ?_
    refine aw_goto 35 dX12_cut_8 (by decide) ?_
    exact aw_lreturn rfl dX12_cut_35
def F12_write (σ : Mem) (x1 : Int32) (x2 : Int32) (y3 : Int64) : Option (Bool × Mem) :=
  bnd (sI σ 12 0 0 1 0) fun s_1 => (F12_placed s_1 x1 x2).bind fun v_2 => bnd (sI s_1 12 0 0 0 v_2) fun s_3 => if (gI s_3 12 0 0 0) ≤ 0 then ((ald 4 (gI s_3 12 0 1) x1).bind fun v_4 => chk 240 ((60 * x1) + x2) <| bnd (sL s_3 12 0 3 (Int32.toNatClampNeg ((60 * x1) + x2)) (F12_cut v_4 y3)) fun s_5 => some (true, s_5)) else (some (false, s_3))
set_option maxRecDepth 20000 in
theorem c12_write {l : Launch} {D : va_G} {ad : Nat → Nat → Nat → Nat} {cid : Nat → Nat → Nat → ClassId} (σ : Mem) (x1 : Int32) (x2 : Int32) (y3 : Int64) : AMF (XM l D ad cid) M12_write 2 eB [.ref (ad 12 0 0), .int x1, .int x2, .long y3] σ (F12_write σ x1 x2 y3) := by
  refine AM.ofW (by decide +kernel) (Nat.le_of_ble_eq_true rfl) (ls := [(0, .ref (ad 12 0 0)), (1, .int x1), (2, .int x2), (3, .long y3)]) rfl ?_
  refine aw_entry ?_
  unfold F12_write
  refine aw_aload_n 0 dX12_write_0 rfl rfl ?_
  refine aw_iconst 0 dX12_write_1 (by decide) ?_
  refine aw_putI (fs_12_1 (by decide)) ci_12 (by decide) rfl rfl w_1459 dX12_write_2 ?_
  refine aw_bndM (fun s_1 => ?_)
  refine aw_aload_n 0 dX12_write_5 rfl rfl ?_
  refine aw_aload_n 0 dX12_write_6 rfl rfl ?_
  refine aw_iload_n 1 dX12_write_7 rfl rfl ?_
  refine aw_iload_n 2 dX12_write_8 rfl rfl ?_
  refine aw_callVO_I (c12_placed s_1 x1 x2) (io_12 (by decide)) ci_12 (by decide) mk_12_placed w_1668 w_50 w_1666 rfl rfl (Nat.le_of_ble_eq_true rfl) dX12_write_9 (fun v_2 => ?_)
  refine aw_putI (fs_12_0 (by decide)) ci_12 (by decide) rfl rfl w_1458 dX12_write_12 ?_
  refine aw_bndM (fun s_3 => ?_)
  refine aw_aload_n 0 dX12_write_15 rfl rfl ?_
  refine aw_getf (fg_12_0 (by decide)) ci_12 (by decide) w_1458 dX12_write_16 ?_
  refine aw_if_le 24 dX12_write_19 (by decide) ?_ ?_
  · refine aw_aload_n 0 dX12_write_24 rfl rfl ?_
    refine aw_getf (fg_12_6 (by decide)) ci_12 (by decide) w_1464 dX12_write_25 ?_
    refine aw_bipush 60 dX12_write_28 (by decide) ?_
    refine aw_iload_n 1 dX12_write_30 rfl rfl ?_
    refine aw_imul dX12_write_31 ?_
    refine aw_iload_n 2 dX12_write_32 rfl rfl ?_
    refine aw_iadd dX12_write_33 ?_
    refine aw_aload_n 0 dX12_write_34 rfl rfl ?_
    refine aw_getf (fg_12_4 (by decide)) ci_12 (by decide) w_1462 dX12_write_35 ?_
    refine aw_iload_n 1 dX12_write_38 rfl rfl ?_
    refine aw_iaload (ar_12_1 (by decide)) dX12_write_39 (fun v_4 => ?_)
    refine aw_lload_n 3 dX12_write_40 rfl rfl ?_
    refine aw_callST_L (c12_cut s_3 v_4 y3) (by decide) mk_12_cut w_1675 w_1674 rfl rfl (Nat.le_of_ble_eq_true rfl) dX12_write_41 ?_
    refine aw_lastore (ar_12_3 (by decide)) dX12_write_44 ?_
    refine aw_bndM (fun s_5 => ?_)
    refine aw_iconst 1 dX12_write_45 (by decide) ?_
    exact aw_zreturn (b := true) rfl rfl dX12_write_46
  · refine aw_iconst 0 dX12_write_22 (by decide) ?_
    exact aw_zreturn (b := false) rfl rfl dX12_write_23
def F12_read (σ : Mem) (x1 : Int32) (x2 : Int32) : Option (Int64 × Mem) :=
  bnd (sI σ 12 0 0 1 0) fun s_1 => (F12_placed s_1 x1 x2).bind fun v_2 => bnd (sI s_1 12 0 0 0 v_2) fun s_3 => if (gI s_3 12 0 0 0) ≤ 0 then ((ald 240 (gL s_3 12 0 3) ((60 * x1) + x2)).bind fun v_4 => some (v_4, s_3)) else (some ((-1), s_3))
set_option maxRecDepth 20000 in
theorem c12_read {l : Launch} {D : va_G} {ad : Nat → Nat → Nat → Nat} {cid : Nat → Nat → Nat → ClassId} (σ : Mem) (x1 : Int32) (x2 : Int32) : AMF (XM l D ad cid) M12_read 2 eL [.ref (ad 12 0 0), .int x1, .int x2] σ (F12_read σ x1 x2) := by
  refine AM.ofW (by decide +kernel) (Nat.le_of_ble_eq_true rfl) (ls := [(0, .ref (ad 12 0 0)), (1, .int x1), (2, .int x2)]) rfl ?_
  refine aw_entry ?_
  unfold F12_read
  refine aw_aload_n 0 dX12_read_0 rfl rfl ?_
  refine aw_iconst 0 dX12_read_1 (by decide) ?_
  refine aw_putI (fs_12_1 (by decide)) ci_12 (by decide) rfl rfl w_1459 dX12_read_2 ?_
  refine aw_bndM (fun s_1 => ?_)
  refine aw_aload_n 0 dX12_read_5 rfl rfl ?_
  refine aw_aload_n 0 dX12_read_6 rfl rfl ?_
  refine aw_iload_n 1 dX12_read_7 rfl rfl ?_
  refine aw_iload_n 2 dX12_read_8 rfl rfl ?_
  refine aw_callVO_I (c12_placed s_1 x1 x2) (io_12 (by decide)) ci_12 (by decide) mk_12_placed w_1668 w_50 w_1666 rfl rfl (Nat.le_of_ble_eq_true rfl) dX12_read_9 (fun v_2 => ?_)
  refine aw_putI (fs_12_0 (by decide)) ci_12 (by decide) rfl rfl w_1458 dX12_read_12 ?_
  refine aw_bndM (fun s_3 => ?_)
  refine aw_aload_n 0 dX12_read_15 rfl rfl ?_
  refine aw_getf (fg_12_0 (by decide)) ci_12 (by decide) w_1458 dX12_read_16 ?_
  refine aw_if_le 28 dX12_read_19 (by decide) ?_ ?_
  · refine aw_aload_n 0 dX12_read_28 rfl rfl ?_
    refine aw_getf (fg_12_6 (by decide)) ci_12 (by decide) w_1464 dX12_read_29 ?_
    refine aw_bipush 60 dX12_read_32 (by decide) ?_
    refine aw_iload_n 1 dX12_read_34 rfl rfl ?_
    refine aw_imul dX12_read_35 ?_
    refine aw_iload_n 2 dX12_read_36 rfl rfl ?_
    refine aw_iadd dX12_read_37 ?_
    refine aw_laload (ar_12_3 (by decide)) dX12_read_38 (fun v_4 => ?_)
    exact aw_lreturn rfl dX12_read_39
  · refine aw_ldc2 w_1681 dX12_read_22 ?_
    refine aw_goto 39 dX12_read_25 (by decide) ?_
    exact aw_lreturn rfl dX12_read_39
def F12_pour_p182 (rc : Mem → Int32 → Option ((Unit) × Mem)) (σ : Mem) (x1 : Int32) (x2 : Int32) (x3 : Int32) (x4 : Int32) (x5 : Int32) (z6 : Bool) (x7 : Int32) (q0 : Int32) : Option ((Unit) × Mem) :=
  (ald 240 (gL σ 12 0 3) (((60 * x1) + x2) + q0)).bind fun v_23 => chk 240 (((60 * x3) + x4) + q0) <| bnd (sL σ 12 0 3 (Int32.toNatClampNeg (((60 * x3) + x4) + q0)) v_23) fun s_24 => rc s_24 (x7 + 1)
set_option maxRecDepth 20000 in
theorem c12_pour_p182 {l : Launch} {D : va_G} {ad : Nat → Nat → Nat → Nat} {cid : Nat → Nat → Nat → ClassId} {α : Type} {emb : α → Option Value}  (x1 : Int32) (x2 : Int32) (x3 : Int32) (x4 : Int32) (x5 : Int32) (z6 : Bool) {G : Unit → Mem → Option (α × Mem)} (kx : ∀ r σ, AW (XM l D ad cid) M12_pour 1 emb [] 219 [] σ (G r σ)) {rc : Mem → Int32 → Option ((Unit) × Mem)} (ih : ∀ (σ : Mem) (x7 : Int32), AW (XM l D ad cid) M12_pour 1 emb [(0, .ref (ad 12 0 0)), (1, .int x1), (2, .int x2), (3, .int x3), (4, .int x4), (5, .int x5), (6, .int (b2i z6)), (7, .int x7)] 158 [] σ (bd (rc σ x7) G)) (σ : Mem) (x7 : Int32) (q0 : Int32) : AW (XM l D ad cid) M12_pour 1 emb [(0, .ref (ad 12 0 0)), (1, .int x1), (2, .int x2), (3, .int x3), (4, .int x4), (5, .int x5), (6, .int (b2i z6)), (7, .int x7)] 182 [.int q0] σ ((F12_pour_p182 rc σ x1 x2 x3 x4 x5 z6 x7 q0).bind (fun q => G q.1 q.2)) := by
  unfold F12_pour_p182
  refine aw_istore (ls' := [(0, .ref (ad 12 0 0)), (1, .int x1), (2, .int x2), (3, .int x3), (4, .int x4), (5, .int x5), (6, .int (b2i z6)), (7, .int x7), (8, .int q0)]) [1, 2, 3, 4, 5, 6, 7, 8, 0] dX12_pour_182 (by decide) rfl ?_
  refine aw_aload_n 0 dX12_pour_184 rfl rfl ?_
  refine aw_getf (fg_12_6 (by decide)) ci_12 (by decide) w_1464 dX12_pour_185 ?_
  refine aw_bipush 60 dX12_pour_188 (by decide) ?_
  refine aw_iload_n 3 dX12_pour_190 rfl rfl ?_
  refine aw_imul dX12_pour_191 ?_
  refine aw_iload 4 dX12_pour_192 rfl ?_
  refine aw_iadd dX12_pour_194 ?_
  refine aw_iload 8 dX12_pour_195 rfl ?_
  refine aw_iadd dX12_pour_197 ?_
  refine aw_aload_n 0 dX12_pour_198 rfl rfl ?_
  refine aw_getf (fg_12_6 (by decide)) ci_12 (by decide) w_1464 dX12_pour_199 ?_
  refine aw_bipush 60 dX12_pour_202 (by decide) ?_
  refine aw_iload_n 1 dX12_pour_204 rfl rfl ?_
  refine aw_imul dX12_pour_205 ?_
  refine aw_iload_n 2 dX12_pour_206 rfl rfl ?_
  refine aw_iadd dX12_pour_207 ?_
  refine aw_iload 8 dX12_pour_208 rfl ?_
  refine aw_iadd dX12_pour_210 ?_
  refine aw_laload (ar_12_3 (by decide)) dX12_pour_211 (fun v_23 => ?_)
  refine aw_lastore (ar_12_3 (by decide)) dX12_pour_212 ?_
  refine aw_bndM (fun s_24 => ?_)
  refine aw_iinc (ls' := [(0, .ref (ad 12 0 0)), (1, .int x1), (2, .int x2), (3, .int x3), (4, .int x4), (5, .int x5), (6, .int (b2i z6)), (7, .int (x7 + 1))]) (x7 + 1) 7 [1, 2, 3, 4, 5, 6, 7, 0] dX12_pour_213 rfl (by rfl) (by decide) rfl ?_
  refine aw_goto 158 dX12_pour_216 (by decide) ?_
  exact ih s_24 (x7 + 1)
def F12_pour_L158 (x1 : Int32) (x2 : Int32) (x3 : Int32) (x4 : Int32) (x5 : Int32) (z6 : Bool) : Nat → Mem → Int32 → Option ((Unit) × Mem)
  | 0 => fun _ _ => none
  | n + 1 => fun σ x7 =>
    if x5 ≤ x7 then (some ((), σ)) else (if z6 = true then (F12_pour_p182 (F12_pour_L158 x1 x2 x3 x4 x5 z6 n) σ x1 x2 x3 x4 x5 z6 x7 ((x5 - 1) - x7)) else (F12_pour_p182 (F12_pour_L158 x1 x2 x3 x4 x5 z6 n) σ x1 x2 x3 x4 x5 z6 x7 x7))
set_option maxRecDepth 20000 in
theorem c12_pour_L158 {l : Launch} {D : va_G} {ad : Nat → Nat → Nat → Nat} {cid : Nat → Nat → Nat → ClassId} {α : Type} {emb : α → Option Value} (x1 : Int32) (x2 : Int32) (x3 : Int32) (x4 : Int32) (x5 : Int32) (z6 : Bool) {G : Unit → Mem → Option (α × Mem)} (kx : ∀ r σ, AW (XM l D ad cid) M12_pour 1 emb [] 219 [] σ (G r σ)) : ∀ (n : Nat) (σ : Mem) (x7 : Int32), AW (XM l D ad cid) M12_pour 1 emb [(0, .ref (ad 12 0 0)), (1, .int x1), (2, .int x2), (3, .int x3), (4, .int x4), (5, .int x5), (6, .int (b2i z6)), (7, .int x7)] 158 [] σ (bd (F12_pour_L158 x1 x2 x3 x4 x5 z6 n σ x7) G) := by
  intro n
  induction n with
  | zero => intros; exact aw_none
  | succ n ih =>
    intro σ x7
    refine aw_bdB ?_
    rw [F12_pour_L158.eq_2]
    refine aw_iload 7 dX12_pour_158 rfl ?_
    refine aw_iload 5 dX12_pour_160 rfl ?_
    refine aw_icmp_ge 219 dX12_pour_162 (by decide) ?_ ?_
    · refine aw_ls (ls' := []) [] rfl ?_
      exact kx () σ
    · refine aw_iload 6 dX12_pour_165 rfl ?_
      refine aw_bif_eq 180 dX12_pour_167 (by decide) ?_ ?_
      · refine aw_iload 7 dX12_pour_180 rfl ?_
        exact c12_pour_p182 x1 x2 x3 x4 x5 z6 kx ih σ x7 x7
      · refine aw_iload 5 dX12_pour_170 rfl ?_
        refine aw_iconst 1 dX12_pour_172 (by decide) ?_
        refine aw_isub dX12_pour_173 ?_
        refine aw_iload 7 dX12_pour_174 rfl ?_
        refine aw_isub dX12_pour_176 ?_
        refine aw_goto 182 dX12_pour_177 (by decide) ?_
        exact c12_pour_p182 x1 x2 x3 x4 x5 z6 kx ih σ x7 ((x5 - 1) - x7)
def F12_pour (σ : Mem) (x1 : Int32) (x2 : Int32) (x3 : Int32) (x4 : Int32) (x5 : Int32) : Option (Bool × Mem) :=
  bnd (sI σ 12 0 0 1 0) fun s_1 => bnd (sI s_1 12 0 0 0 0) fun s_2 => if x1 < 0 then (bd (F12_no s_2 1) fun v_3 s_4 => some (v_3, s_4)) else (if 4 ≤ x1 then (bd (F12_no s_2 1) fun v_5 s_6 => some (v_5, s_6)) else (if x3 < 0 then (bd (F12_no s_2 1) fun v_7 s_8 => some (v_7, s_8)) else (if x3 < 4 then ((ald 4 (gI s_2 12 0 2) x1).bind fun v_9 => if v_9 < 0 then (bd (F12_no s_2 3) fun v_10 s_11 => some (v_10, s_11)) else ((ald 4 (gI s_2 12 0 2) x3).bind fun v_12 => if 0 ≤ v_12 then ((ald 4 (gI s_2 12 0 1) x1).bind fun v_13 => (ald 4 (gI s_2 12 0 1) x3).bind fun v_14 => if v_13 = v_14 then (if 0 ≤ x5 then (if x2 < 0 then (bd (F12_no s_2 4) fun v_15 s_16 => some (v_15, s_16)) else (if x4 < 0 then (bd (F12_no s_2 4) fun v_17 s_18 => some (v_17, s_18)) else ((ald 4 (gI s_2 12 0 2) x1).bind fun v_19 => if (Int32.toInt64 v_19) < ((Int32.toInt64 x2) + (Int32.toInt64 x5)) then (bd (F12_no s_2 4) fun v_20 s_21 => some (v_20, s_21)) else ((ald 4 (gI s_2 12 0 2) x3).bind fun v_22 => if ((Int32.toInt64 x4) + (Int32.toInt64 x5)) ≤ (Int32.toInt64 v_22) then (if x4 ≤ x2 then (bd (F12_pour_L158 x1 x2 x3 x4 x5 false fuelK s_2 0) fun r_25 s_26 => some (true, s_26)) else (bd (F12_pour_L158 x1 x2 x3 x4 x5 true fuelK s_2 0) fun r_27 s_28 => some (true, s_28))) else (bd (F12_no s_2 4) fun v_29 s_30 => some (v_29, s_30)))))) else (bd (F12_no s_2 6) fun v_31 s_32 => some (v_31, s_32))) else (bd (F12_no s_2 11) fun v_33 s_34 => some (v_33, s_34))) else (bd (F12_no s_2 3) fun v_35 s_36 => some (v_35, s_36)))) else (bd (F12_no s_2 1) fun v_37 s_38 => some (v_37, s_38)))))
set_option maxRecDepth 20000 in
theorem c12_pour {l : Launch} {D : va_G} {ad : Nat → Nat → Nat → Nat} {cid : Nat → Nat → Nat → ClassId} (σ : Mem) (x1 : Int32) (x2 : Int32) (x3 : Int32) (x4 : Int32) (x5 : Int32) : AMF (XM l D ad cid) M12_pour 1 eB [.ref (ad 12 0 0), .int x1, .int x2, .int x3, .int x4, .int x5] σ (F12_pour σ x1 x2 x3 x4 x5) := by
  refine AM.ofW (by decide +kernel) (Nat.le_of_ble_eq_true rfl) (ls := [(0, .ref (ad 12 0 0)), (1, .int x1), (2, .int x2), (3, .int x3), (4, .int x4), (5, .int x5)]) rfl ?_
  refine aw_entry ?_
  unfold F12_pour
  refine aw_aload_n 0 dX12_pour_0 rfl rfl ?_
  refine aw_iconst 0 dX12_pour_1 (by decide) ?_
  refine aw_putI (fs_12_1 (by decide)) ci_12 (by decide) rfl rfl w_1459 dX12_pour_2 ?_
  refine aw_bndM (fun s_1 => ?_)
  refine aw_aload_n 0 dX12_pour_5 rfl rfl ?_
  refine aw_iconst 0 dX12_pour_6 (by decide) ?_
  refine aw_putI (fs_12_0 (by decide)) ci_12 (by decide) rfl rfl w_1458 dX12_pour_7 ?_
  refine aw_bndM (fun s_2 => ?_)
  refine aw_iload_n 1 dX12_pour_10 rfl rfl ?_
  refine aw_if_lt 28 dX12_pour_11 (by decide) ?_ ?_
  · refine aw_aload_n 0 dX12_pour_28 rfl rfl ?_
    refine aw_iconst 1 dX12_pour_29 (by decide) ?_
    refine aw_callVW_B (c12_no s_2 1) (io_12 (by decide)) ci_12 (by decide) mk_12_no w_1660 w_49 w_1658 rfl rfl (Nat.le_of_ble_eq_true rfl) dX12_pour_30 (fun v_3 s_4 => ?_)
    exact aw_zreturn (b := v_3) rfl rfl dX12_pour_33
  · refine aw_iload_n 1 dX12_pour_14 rfl rfl ?_
    refine aw_iconst 4 dX12_pour_15 (by decide) ?_
    refine aw_icmp_ge 28 dX12_pour_16 (by decide) ?_ ?_
    · refine aw_aload_n 0 dX12_pour_28 rfl rfl ?_
      refine aw_iconst 1 dX12_pour_29 (by decide) ?_
      refine aw_callVW_B (c12_no s_2 1) (io_12 (by decide)) ci_12 (by decide) mk_12_no w_1660 w_49 w_1658 rfl rfl (Nat.le_of_ble_eq_true rfl) dX12_pour_30 (fun v_5 s_6 => ?_)
      exact aw_zreturn (b := v_5) rfl rfl dX12_pour_33
    · refine aw_iload_n 3 dX12_pour_19 rfl rfl ?_
      refine aw_if_lt 28 dX12_pour_20 (by decide) ?_ ?_
      · refine aw_aload_n 0 dX12_pour_28 rfl rfl ?_
        refine aw_iconst 1 dX12_pour_29 (by decide) ?_
        refine aw_callVW_B (c12_no s_2 1) (io_12 (by decide)) ci_12 (by decide) mk_12_no w_1660 w_49 w_1658 rfl rfl (Nat.le_of_ble_eq_true rfl) dX12_pour_30 (fun v_7 s_8 => ?_)
        exact aw_zreturn (b := v_7) rfl rfl dX12_pour_33
      · refine aw_iload_n 3 dX12_pour_23 rfl rfl ?_
        refine aw_iconst 4 dX12_pour_24 (by decide) ?_
        refine aw_icmp_lt 34 dX12_pour_25 (by decide) ?_ ?_
        · refine aw_aload_n 0 dX12_pour_34 rfl rfl ?_
          refine aw_getf (fg_12_5 (by decide)) ci_12 (by decide) w_1463 dX12_pour_35 ?_
          refine aw_iload_n 1 dX12_pour_38 rfl rfl ?_
          refine aw_iaload (ar_12_2 (by decide)) dX12_pour_39 (fun v_9 => ?_)
          refine aw_if_lt 52 dX12_pour_40 (by decide) ?_ ?_
          · refine aw_aload_n 0 dX12_pour_52 rfl rfl ?_
            refine aw_iconst 3 dX12_pour_53 (by decide) ?_
            refine aw_callVW_B (c12_no s_2 3) (io_12 (by decide)) ci_12 (by decide) mk_12_no w_1660 w_49 w_1658 rfl rfl (Nat.le_of_ble_eq_true rfl) dX12_pour_54 (fun v_10 s_11 => ?_)
            exact aw_zreturn (b := v_10) rfl rfl dX12_pour_57
          · refine aw_aload_n 0 dX12_pour_43 rfl rfl ?_
            refine aw_getf (fg_12_5 (by decide)) ci_12 (by decide) w_1463 dX12_pour_44 ?_
            refine aw_iload_n 3 dX12_pour_47 rfl rfl ?_
            refine aw_iaload (ar_12_2 (by decide)) dX12_pour_48 (fun v_12 => ?_)
            refine aw_if_ge 58 dX12_pour_49 (by decide) ?_ ?_
            · refine aw_aload_n 0 dX12_pour_58 rfl rfl ?_
              refine aw_getf (fg_12_4 (by decide)) ci_12 (by decide) w_1462 dX12_pour_59 ?_
              refine aw_iload_n 1 dX12_pour_62 rfl rfl ?_
              refine aw_iaload (ar_12_1 (by decide)) dX12_pour_63 (fun v_13 => ?_)
              refine aw_aload_n 0 dX12_pour_64 rfl rfl ?_
              refine aw_getf (fg_12_4 (by decide)) ci_12 (by decide) w_1462 dX12_pour_65 ?_
              refine aw_iload_n 3 dX12_pour_68 rfl rfl ?_
              refine aw_iaload (ar_12_1 (by decide)) dX12_pour_69 (fun v_14 => ?_)
              refine aw_icmp_eq 80 dX12_pour_70 (by decide) ?_ ?_
              · refine aw_iload 5 dX12_pour_80 rfl ?_
                refine aw_if_ge 92 dX12_pour_82 (by decide) ?_ ?_
                · refine aw_iload_n 2 dX12_pour_92 rfl rfl ?_
                  refine aw_if_lt 136 dX12_pour_93 (by decide) ?_ ?_
                  · refine aw_aload_n 0 dX12_pour_136 rfl rfl ?_
                    refine aw_iconst 4 dX12_pour_137 (by decide) ?_
                    refine aw_callVW_B (c12_no s_2 4) (io_12 (by decide)) ci_12 (by decide) mk_12_no w_1660 w_49 w_1658 rfl rfl (Nat.le_of_ble_eq_true rfl) dX12_pour_138 (fun v_15 s_16 => ?_)
                    exact aw_zreturn (b := v_15) rfl rfl dX12_pour_141
                  · refine aw_iload 4 dX12_pour_96 rfl ?_
                    refine aw_if_lt 136 dX12_pour_98 (by decide) ?_ ?_
                    · refine aw_aload_n 0 dX12_pour_136 rfl rfl ?_
                      refine aw_iconst 4 dX12_pour_137 (by decide) ?_
                      refine aw_callVW_B (c12_no s_2 4) (io_12 (by decide)) ci_12 (by decide) mk_12_no w_1660 w_49 w_1658 rfl rfl (Nat.le_of_ble_eq_true rfl) dX12_pour_138 (fun v_17 s_18 => ?_)
                      exact aw_zreturn (b := v_17) rfl rfl dX12_pour_141
                    · refine aw_iload_n 2 dX12_pour_101 rfl rfl ?_
                      refine aw_i2l dX12_pour_102 ?_
                      refine aw_iload 5 dX12_pour_103 rfl ?_
                      refine aw_i2l dX12_pour_105 ?_
                      refine aw_ladd dX12_pour_106 ?_
                      refine aw_aload_n 0 dX12_pour_107 rfl rfl ?_
                      refine aw_getf (fg_12_5 (by decide)) ci_12 (by decide) w_1463 dX12_pour_108 ?_
                      refine aw_iload_n 1 dX12_pour_111 rfl rfl ?_
                      refine aw_iaload (ar_12_2 (by decide)) dX12_pour_112 (fun v_19 => ?_)
                      refine aw_i2l dX12_pour_113 ?_
                      refine aw_lcmp dX12_pour_114 ?_
                      refine aw_lif_gt 136 dX12_pour_115 (by decide) ?_ ?_
                      · refine aw_aload_n 0 dX12_pour_136 rfl rfl ?_
                        refine aw_iconst 4 dX12_pour_137 (by decide) ?_
                        refine aw_callVW_B (c12_no s_2 4) (io_12 (by decide)) ci_12 (by decide) mk_12_no w_1660 w_49 w_1658 rfl rfl (Nat.le_of_ble_eq_true rfl) dX12_pour_138 (fun v_20 s_21 => ?_)
                        exact aw_zreturn (b := v_20) rfl rfl dX12_pour_141
                      · refine aw_iload 4 dX12_pour_118 rfl ?_
                        refine aw_i2l dX12_pour_120 ?_
                        refine aw_iload 5 dX12_pour_121 rfl ?_
                        refine aw_i2l dX12_pour_123 ?_
                        refine aw_ladd dX12_pour_124 ?_
                        refine aw_aload_n 0 dX12_pour_125 rfl rfl ?_
                        refine aw_getf (fg_12_5 (by decide)) ci_12 (by decide) w_1463 dX12_pour_126 ?_
                        refine aw_iload_n 3 dX12_pour_129 rfl rfl ?_
                        refine aw_iaload (ar_12_2 (by decide)) dX12_pour_130 (fun v_22 => ?_)
                        refine aw_i2l dX12_pour_131 ?_
                        refine aw_lcmp dX12_pour_132 ?_
                        refine aw_lif_le 142 dX12_pour_133 (by decide) ?_ ?_
                        · refine aw_iload_n 2 dX12_pour_142 rfl rfl ?_
                          refine aw_iload 4 dX12_pour_143 rfl ?_
                          refine aw_icmp_ge 152 dX12_pour_145 (by decide) ?_ ?_
                          · refine aw_iconst 0 dX12_pour_152 (by decide) ?_
                            refine aw_istore (ls' := [(0, .ref (ad 12 0 0)), (1, .int x1), (2, .int x2), (3, .int x3), (4, .int x4), (5, .int x5), (6, .int 0)]) [1, 2, 3, 4, 5, 6, 0] dX12_pour_153 (by decide) rfl ?_
                            refine aw_iconst 0 dX12_pour_155 (by decide) ?_
                            refine aw_istore (ls' := [(0, .ref (ad 12 0 0)), (1, .int x1), (2, .int x2), (3, .int x3), (4, .int x4), (5, .int x5), (6, .int 0), (7, .int 0)]) [1, 2, 3, 4, 5, 6, 7, 0] dX12_pour_156 (by decide) rfl ?_
                            refine aw_assocW ?_
                            refine c12_pour_L158 x1 x2 x3 x4 x5 false (fun r_25 s_26 => ?_) fuelK s_2 0
                            refine aw_iconst 1 dX12_pour_219 (by decide) ?_
                            exact aw_zreturn (b := true) rfl rfl dX12_pour_220
                          · refine aw_iconst 1 dX12_pour_148 (by decide) ?_
                            refine aw_goto 153 dX12_pour_149 (by decide) ?_
                            refine aw_istore (ls' := [(0, .ref (ad 12 0 0)), (1, .int x1), (2, .int x2), (3, .int x3), (4, .int x4), (5, .int x5), (6, .int 1)]) [1, 2, 3, 4, 5, 6, 0] dX12_pour_153 (by decide) rfl ?_
                            refine aw_iconst 0 dX12_pour_155 (by decide) ?_
                            refine aw_istore (ls' := [(0, .ref (ad 12 0 0)), (1, .int x1), (2, .int x2), (3, .int x3), (4, .int x4), (5, .int x5), (6, .int 1), (7, .int 0)]) [1, 2, 3, 4, 5, 6, 7, 0] dX12_pour_156 (by decide) rfl ?_
                            refine aw_assocW ?_
                            refine c12_pour_L158 x1 x2 x3 x4 x5 true (fun r_27 s_28 => ?_) fuelK s_2 0
                            refine aw_iconst 1 dX12_pour_219 (by decide) ?_
                            exact aw_zreturn (b := true) rfl rfl dX12_pour_220
                        · refine aw_aload_n 0 dX12_pour_136 rfl rfl ?_
                          refine aw_iconst 4 dX12_pour_137 (by decide) ?_
                          refine aw_callVW_B (c12_no s_2 4) (io_12 (by decide)) ci_12 (by decide) mk_12_no w_1660 w_49 w_1658 rfl rfl (Nat.le_of_ble_eq_true rfl) dX12_pour_138 (fun v_29 s_30 => ?_)
                          exact aw_zreturn (b := v_29) rfl rfl dX12_pour_141
                · refine aw_aload_n 0 dX12_pour_85 rfl rfl ?_
                  refine aw_bipush 6 dX12_pour_86 (by decide) ?_
                  refine aw_callVW_B (c12_no s_2 6) (io_12 (by decide)) ci_12 (by decide) mk_12_no w_1660 w_49 w_1658 rfl rfl (Nat.le_of_ble_eq_true rfl) dX12_pour_88 (fun v_31 s_32 => ?_)
                  exact aw_zreturn (b := v_31) rfl rfl dX12_pour_91
              · refine aw_aload_n 0 dX12_pour_73 rfl rfl ?_
                refine aw_bipush 11 dX12_pour_74 (by decide) ?_
                refine aw_callVW_B (c12_no s_2 11) (io_12 (by decide)) ci_12 (by decide) mk_12_no w_1660 w_49 w_1658 rfl rfl (Nat.le_of_ble_eq_true rfl) dX12_pour_76 (fun v_33 s_34 => ?_)
                exact aw_zreturn (b := v_33) rfl rfl dX12_pour_79
            · refine aw_aload_n 0 dX12_pour_52 rfl rfl ?_
              refine aw_iconst 3 dX12_pour_53 (by decide) ?_
              refine aw_callVW_B (c12_no s_2 3) (io_12 (by decide)) ci_12 (by decide) mk_12_no w_1660 w_49 w_1658 rfl rfl (Nat.le_of_ble_eq_true rfl) dX12_pour_54 (fun v_35 s_36 => ?_)
              exact aw_zreturn (b := v_35) rfl rfl dX12_pour_57
        · refine aw_aload_n 0 dX12_pour_28 rfl rfl ?_
          refine aw_iconst 1 dX12_pour_29 (by decide) ?_
          refine aw_callVW_B (c12_no s_2 1) (io_12 (by decide)) ci_12 (by decide) mk_12_no w_1660 w_49 w_1658 rfl rfl (Nat.le_of_ble_eq_true rfl) dX12_pour_30 (fun v_37 s_38 => ?_)
          exact aw_zreturn (b := v_37) rfl rfl dX12_pour_33
def F12_lay_L2 (x1 : Int32) : Nat → Mem → Int32 → Option ((Unit) × Mem)
  | 0 => fun _ _ => none
  | n + 1 => fun σ x2 =>
    if x2 < 0 then (some ((), σ)) else (chk 900 (gI σ 12 0 0 8) <| bnd (sI σ 12 0 4 (Int32.toNatClampNeg (gI σ 12 0 0 8)) (vp_nar .byte (Int8.toInt32 (Int32.toInt8 (x1 >>> ((8 * x2) &&& 31)))))) fun s_1 => bnd (sI s_1 12 0 0 8 ((gI s_1 12 0 0 8) + 1)) fun s_2 => (F12_lay_L2 x1 n) s_2 (x2 + (-1)))
set_option maxRecDepth 20000 in
theorem c12_lay_L2 {l : Launch} {D : va_G} {ad : Nat → Nat → Nat → Nat} {cid : Nat → Nat → Nat → ClassId} {α : Type} {emb : α → Option Value} (x1 : Int32) {G : Unit → Mem → Option (α × Mem)} (kx : ∀ r σ, AW (XM l D ad cid) M12_lay 0 emb [] 38 [] σ (G r σ)) : ∀ (n : Nat) (σ : Mem) (x2 : Int32), AW (XM l D ad cid) M12_lay 0 emb [(0, .ref (ad 12 0 0)), (1, .int x1), (2, .int x2)] 2 [] σ (bd (F12_lay_L2 x1 n σ x2) G) := by
  intro n
  induction n with
  | zero => intros; exact aw_none
  | succ n ih =>
    intro σ x2
    refine aw_bdB ?_
    rw [F12_lay_L2.eq_2]
    refine aw_iload_n 2 dX12_lay_2 rfl rfl ?_
    refine aw_if_lt 38 dX12_lay_3 (by decide) ?_ ?_
    · refine aw_ls (ls' := []) [] rfl ?_
      exact kx () σ
    · refine aw_aload_n 0 dX12_lay_6 rfl rfl ?_
      refine aw_getf (fg_12_7 (by decide)) ci_12 (by decide) w_1465 dX12_lay_7 ?_
      refine aw_aload_n 0 dX12_lay_10 rfl rfl ?_
      refine aw_getf (fg_12_8 (by decide)) ci_12 (by decide) w_1466 dX12_lay_11 ?_
      refine aw_iload_n 1 dX12_lay_14 rfl rfl ?_
      refine aw_bipush 8 dX12_lay_15 (by decide) ?_
      refine aw_iload_n 2 dX12_lay_17 rfl rfl ?_
      refine aw_imul dX12_lay_18 ?_
      refine aw_ishr dX12_lay_19 ?_
      refine aw_i2b dX12_lay_20 ?_
      refine aw_bastore (ar_12_4 (by decide)) dX12_lay_21 ?_
      refine aw_bndM (fun s_1 => ?_)
      refine aw_aload_n 0 dX12_lay_22 rfl rfl ?_
      refine aw_dup dX12_lay_23 rfl ?_
      refine aw_getf (fg_12_8 (by decide)) ci_12 (by decide) w_1466 dX12_lay_24 ?_
      refine aw_iconst 1 dX12_lay_27 (by decide) ?_
      refine aw_iadd dX12_lay_28 ?_
      refine aw_putI (fs_12_8 (by decide)) ci_12 (by decide) rfl rfl w_1466 dX12_lay_29 ?_
      refine aw_bndM (fun s_2 => ?_)
      refine aw_iinc (ls' := [(0, .ref (ad 12 0 0)), (1, .int x1), (2, .int (x2 + (-1)))]) (x2 + (-1)) 2 [1, 2, 0] dX12_lay_32 rfl (by rfl) (by decide) rfl ?_
      refine aw_goto 2 dX12_lay_35 (by decide) ?_
      exact ih s_2 (x2 + (-1))
def F12_lay (σ : Mem) (x1 : Int32) : Option (Unit × Mem) :=
  bd (F12_lay_L2 x1 fuelK σ 3) fun r_3 s_4 => some ((), s_4)
set_option maxRecDepth 20000 in
theorem c12_lay {l : Launch} {D : va_G} {ad : Nat → Nat → Nat → Nat} {cid : Nat → Nat → Nat → ClassId} (σ : Mem) (x1 : Int32) : AMF (XM l D ad cid) M12_lay 0 eU [.ref (ad 12 0 0), .int x1] σ (F12_lay σ x1) := by
  refine AM.ofW (by decide +kernel) (Nat.le_of_ble_eq_true rfl) (ls := [(0, .ref (ad 12 0 0)), (1, .int x1)]) rfl ?_
  refine aw_entry ?_
  unfold F12_lay
  refine aw_iconst 3 dX12_lay_0 (by decide) ?_
  refine aw_istore_n (ls' := [(0, .ref (ad 12 0 0)), (1, .int x1), (2, .int 3)]) [1, 2, 0] dX12_lay_1 rfl (by decide) rfl ?_
  refine aw_assocW ?_
  refine c12_lay_L2 x1 (fun r_3 s_4 => ?_) fuelK σ 3
  exact aw_return rfl dX12_lay_38
def F12_feed (σ : Mem) (x1 : Int32) (x2 : Int32) (x3 : Int32) (x4 : Int32) (x5 : Int32) : Option (Int32 × Mem) :=
  bnd (sI σ 12 0 0 1 0) fun s_1 => if ((gI s_1 12 0 0 8) + 20) ≤ 900 then (bd (F12_lay s_1 x1) fun _ s_2 => bd (F12_lay s_2 x2) fun _ s_3 => bd (F12_lay s_3 x3) fun _ s_4 => bd (F12_lay s_4 x4) fun _ s_5 => bd (F12_lay s_5 x5) fun _ s_6 => some ((gI s_6 12 0 0 8), s_6)) else (some ((-1), s_1))
set_option maxRecDepth 20000 in
theorem c12_feed {l : Launch} {D : va_G} {ad : Nat → Nat → Nat → Nat} {cid : Nat → Nat → Nat → ClassId} (σ : Mem) (x1 : Int32) (x2 : Int32) (x3 : Int32) (x4 : Int32) (x5 : Int32) : AMF (XM l D ad cid) M12_feed 1 eI [.ref (ad 12 0 0), .int x1, .int x2, .int x3, .int x4, .int x5] σ (F12_feed σ x1 x2 x3 x4 x5) := by
  refine AM.ofW (by decide +kernel) (Nat.le_of_ble_eq_true rfl) (ls := [(0, .ref (ad 12 0 0)), (1, .int x1), (2, .int x2), (3, .int x3), (4, .int x4), (5, .int x5)]) rfl ?_
  refine aw_entry ?_
  unfold F12_feed
  refine aw_aload_n 0 dX12_feed_0 rfl rfl ?_
  refine aw_iconst 0 dX12_feed_1 (by decide) ?_
  refine aw_putI (fs_12_1 (by decide)) ci_12 (by decide) rfl rfl w_1459 dX12_feed_2 ?_
  refine aw_bndM (fun s_1 => ?_)
  refine aw_aload_n 0 dX12_feed_5 rfl rfl ?_
  refine aw_getf (fg_12_8 (by decide)) ci_12 (by decide) w_1466 dX12_feed_6 ?_
  refine aw_bipush 20 dX12_feed_9 (by decide) ?_
  refine aw_iadd dX12_feed_11 ?_
  refine aw_sipush 900 dX12_feed_12 (by decide) ?_
  refine aw_icmp_le 20 dX12_feed_15 (by decide) ?_ ?_
  · refine aw_aload_n 0 dX12_feed_20 rfl rfl ?_
    refine aw_iload_n 1 dX12_feed_21 rfl rfl ?_
    refine aw_callVW_U (c12_lay s_1 x1) (io_12 (by decide)) ci_12 (by decide) mk_12_lay w_1692 w_52 w_1690 rfl rfl (Nat.le_of_ble_eq_true rfl) dX12_feed_22 (fun _ s_2 => ?_)
    refine aw_aload_n 0 dX12_feed_25 rfl rfl ?_
    refine aw_iload_n 2 dX12_feed_26 rfl rfl ?_
    refine aw_callVW_U (c12_lay s_2 x2) (io_12 (by decide)) ci_12 (by decide) mk_12_lay w_1692 w_52 w_1690 rfl rfl (Nat.le_of_ble_eq_true rfl) dX12_feed_27 (fun _ s_3 => ?_)
    refine aw_aload_n 0 dX12_feed_30 rfl rfl ?_
    refine aw_iload_n 3 dX12_feed_31 rfl rfl ?_
    refine aw_callVW_U (c12_lay s_3 x3) (io_12 (by decide)) ci_12 (by decide) mk_12_lay w_1692 w_52 w_1690 rfl rfl (Nat.le_of_ble_eq_true rfl) dX12_feed_32 (fun _ s_4 => ?_)
    refine aw_aload_n 0 dX12_feed_35 rfl rfl ?_
    refine aw_iload 4 dX12_feed_36 rfl ?_
    refine aw_callVW_U (c12_lay s_4 x4) (io_12 (by decide)) ci_12 (by decide) mk_12_lay w_1692 w_52 w_1690 rfl rfl (Nat.le_of_ble_eq_true rfl) dX12_feed_38 (fun _ s_5 => ?_)
    refine aw_aload_n 0 dX12_feed_41 rfl rfl ?_
    refine aw_iload 5 dX12_feed_42 rfl ?_
    refine aw_callVW_U (c12_lay s_5 x5) (io_12 (by decide)) ci_12 (by decide) mk_12_lay w_1692 w_52 w_1690 rfl rfl (Nat.le_of_ble_eq_true rfl) dX12_feed_44 (fun _ s_6 => ?_)
    refine aw_aload_n 0 dX12_feed_47 rfl rfl ?_
    refine aw_getf (fg_12_8 (by decide)) ci_12 (by decide) w_1466 dX12_feed_48 ?_
    exact aw_ireturn rfl dX12_feed_51
  · refine aw_iconst (-1) dX12_feed_18 (by decide) ?_
    exact aw_ireturn rfl dX12_feed_19
def F12_fault (σ : Mem) (x1 : Int32) : Option (Int32 × Mem) :=
  bnd (sI σ 12 0 0 1 0) fun s_1 => if x1 = 0 then (some ((gI s_1 12 0 0 10), s_1)) else (if x1 = 1 then (some ((gI s_1 12 0 0 11), s_1)) else (some ((-1), s_1)))
set_option maxRecDepth 20000 in
theorem c12_fault {l : Launch} {D : va_G} {ad : Nat → Nat → Nat → Nat} {cid : Nat → Nat → Nat → ClassId} (σ : Mem) (x1 : Int32) : AMF (XM l D ad cid) M12_fault 0 eI [.ref (ad 12 0 0), .int x1] σ (F12_fault σ x1) := by
  refine AM.ofW (by decide +kernel) (Nat.le_of_ble_eq_true rfl) (ls := [(0, .ref (ad 12 0 0)), (1, .int x1)]) rfl ?_
  refine aw_entry ?_
  unfold F12_fault
  refine aw_aload_n 0 dX12_fault_0 rfl rfl ?_
  refine aw_iconst 0 dX12_fault_1 (by decide) ?_
  refine aw_putI (fs_12_1 (by decide)) ci_12 (by decide) rfl rfl w_1459 dX12_fault_2 ?_
  refine aw_bndM (fun s_1 => ?_)
  refine aw_iload_n 1 dX12_fault_5 rfl rfl ?_
  refine aw_if_ne 16 dX12_fault_6 (by decide) ?_ ?_
  · refine aw_iload_n 1 dX12_fault_16 rfl rfl ?_
    refine aw_iconst 1 dX12_fault_17 (by decide) ?_
    refine aw_icmp_ne 28 dX12_fault_18 (by decide) ?_ ?_
    · refine aw_iconst (-1) dX12_fault_28 (by decide) ?_
      exact aw_ireturn rfl dX12_fault_29
    · refine aw_aload_n 0 dX12_fault_21 rfl rfl ?_
      refine aw_getf (fg_12_11 (by decide)) ci_12 (by decide) w_1469 dX12_fault_22 ?_
      refine aw_goto 29 dX12_fault_25 (by decide) ?_
      exact aw_ireturn rfl dX12_fault_29
  · refine aw_aload_n 0 dX12_fault_9 rfl rfl ?_
    refine aw_getf (fg_12_10 (by decide)) ci_12 (by decide) w_1468 dX12_fault_10 ?_
    refine aw_goto 29 dX12_fault_13 (by decide) ?_
    exact aw_ireturn rfl dX12_fault_29
def F12_look2 (σ : Mem) (x1 : Int32) : Option Int32 :=
  if (gI σ 12 0 0 9) ≤ x1 then (some 0) else ((ald 900 (gI σ 12 0 4) x1).bind fun v_1 => some (v_1 &&& 255))
set_option maxRecDepth 20000 in
theorem c12_look2 {l : Launch} {D : va_G} {ad : Nat → Nat → Nat → Nat} {cid : Nat → Nat → Nat → ClassId} (σ : Mem) (x1 : Int32) : AMF (XM l D ad cid) M12_look2 0 eI [.ref (ad 12 0 0), .int x1] σ (oM σ (F12_look2 σ x1)) := by
  refine AM.ofW (by decide +kernel) (Nat.le_of_ble_eq_true rfl) (ls := [(0, .ref (ad 12 0 0)), (1, .int x1)]) rfl ?_
  refine aw_entryO ?_
  unfold F12_look2
  refine aw_iload_n 1 dX12_look2_0 rfl rfl ?_
  refine aw_aload_n 0 dX12_look2_1 rfl rfl ?_
  refine aw_getf (fg_12_9 (by decide)) ci_12 (by decide) w_1467 dX12_look2_2 ?_
  refine aw_icmp_ge 21 dX12_look2_5 (by decide) ?_ ?_
  · refine aw_iconst 0 dX12_look2_21 (by decide) ?_
    exact aw_ireturn rfl dX12_look2_22
  · refine aw_aload_n 0 dX12_look2_8 rfl rfl ?_
    refine aw_getf (fg_12_7 (by decide)) ci_12 (by decide) w_1465 dX12_look2_9 ?_
    refine aw_iload_n 1 dX12_look2_12 rfl rfl ?_
    refine aw_baload (ar_12_4 (by decide)) dX12_look2_13 (fun v_1 => ?_)
    refine aw_sipush 255 dX12_look2_14 (by decide) ?_
    refine aw_iand dX12_look2_17 ?_
    refine aw_goto 22 dX12_look2_18 (by decide) ?_
    exact aw_ireturn rfl dX12_look2_22
def F12_isLetter (x0 : Int32) : Bool :=
  if x0 < 97 then (false) else (if 122 < x0 then (false) else (true))
set_option maxRecDepth 20000 in
theorem c12_isLetter {l : Launch} {D : va_G} {ad : Nat → Nat → Nat → Nat} {cid : Nat → Nat → Nat → ClassId} (σ : Mem) (x0 : Int32) : AMF (XM l D ad cid) M12_isLetter 0 eB [.int x0] σ (some (F12_isLetter x0, σ)) := by
  refine AM.ofW (by decide +kernel) (Nat.le_of_ble_eq_true rfl) (ls := [(0, .int x0)]) rfl ?_
  refine aw_entryT ?_
  unfold F12_isLetter
  refine aw_iload_n 0 dX12_isLetter_0 rfl rfl ?_
  refine aw_bipush 97 dX12_isLetter_1 (by decide) ?_
  refine aw_iteT ?_
  refine aw_icmp_lt 16 dX12_isLetter_3 (by decide) ?_ ?_
  · refine aw_iconst 0 dX12_isLetter_16 (by decide) ?_
    exact aw_zreturn (b := false) rfl rfl dX12_isLetter_17
  · refine aw_iload_n 0 dX12_isLetter_6 rfl rfl ?_
    refine aw_bipush 122 dX12_isLetter_7 (by decide) ?_
    refine aw_iteT ?_
    refine aw_icmp_gt 16 dX12_isLetter_9 (by decide) ?_ ?_
    · refine aw_iconst 0 dX12_isLetter_16 (by decide) ?_
      exact aw_zreturn (b := false) rfl rfl dX12_isLetter_17
    · refine aw_iconst 1 dX12_isLetter_12 (by decide) ?_
      refine aw_goto 17 dX12_isLetter_13 (by decide) ?_
      exact aw_zreturn (b := true) rfl rfl dX12_isLetter_17
def F12_isDigit (x0 : Int32) : Bool :=
  if x0 < 48 then (false) else (if 57 < x0 then (false) else (true))
set_option maxRecDepth 20000 in
theorem c12_isDigit {l : Launch} {D : va_G} {ad : Nat → Nat → Nat → Nat} {cid : Nat → Nat → Nat → ClassId} (σ : Mem) (x0 : Int32) : AMF (XM l D ad cid) M12_isDigit 0 eB [.int x0] σ (some (F12_isDigit x0, σ)) := by
  refine AM.ofW (by decide +kernel) (Nat.le_of_ble_eq_true rfl) (ls := [(0, .int x0)]) rfl ?_
  refine aw_entryT ?_
  unfold F12_isDigit
  refine aw_iload_n 0 dX12_isDigit_0 rfl rfl ?_
  refine aw_bipush 48 dX12_isDigit_1 (by decide) ?_
  refine aw_iteT ?_
  refine aw_icmp_lt 16 dX12_isDigit_3 (by decide) ?_ ?_
  · refine aw_iconst 0 dX12_isDigit_16 (by decide) ?_
    exact aw_zreturn (b := false) rfl rfl dX12_isDigit_17
  · refine aw_iload_n 0 dX12_isDigit_6 rfl rfl ?_
    refine aw_bipush 57 dX12_isDigit_7 (by decide) ?_
    refine aw_iteT ?_
    refine aw_icmp_gt 16 dX12_isDigit_9 (by decide) ?_ ?_
    · refine aw_iconst 0 dX12_isDigit_16 (by decide) ?_
      exact aw_zreturn (b := false) rfl rfl dX12_isDigit_17
    · refine aw_iconst 1 dX12_isDigit_12 (by decide) ?_
      refine aw_goto 17 dX12_isDigit_13 (by decide) ?_
      exact aw_zreturn (b := true) rfl rfl dX12_isDigit_17
def F12_isSignByte (x1 : Int32) : Bool :=
  if x1 = 59 then (true) else (if x1 = 60 then (true) else (if x1 = 62 then (true) else (if x1 = 61 then (true) else (false))))
set_option maxRecDepth 20000 in
theorem c12_isSignByte {l : Launch} {D : va_G} {ad : Nat → Nat → Nat → Nat} {cid : Nat → Nat → Nat → ClassId} (σ : Mem) (x1 : Int32) : AMF (XM l D ad cid) M12_isSignByte 0 eB [.ref (ad 12 0 0), .int x1] σ (some (F12_isSignByte x1, σ)) := by
  refine AM.ofW (by decide +kernel) (Nat.le_of_ble_eq_true rfl) (ls := [(0, .ref (ad 12 0 0)), (1, .int x1)]) rfl ?_
  refine aw_entryT ?_
  unfold F12_isSignByte
  refine aw_iload_n 1 dX12_isSignByte_0 rfl rfl ?_
  refine aw_bipush 59 dX12_isSignByte_1 (by decide) ?_
  refine aw_iteT ?_
  refine aw_icmp_eq 24 dX12_isSignByte_3 (by decide) ?_ ?_
  · refine aw_iconst 1 dX12_isSignByte_24 (by decide) ?_
    refine aw_goto 29 dX12_isSignByte_25 (by decide) ?_
    exact aw_zreturn (b := true) rfl rfl dX12_isSignByte_29
  · refine aw_iload_n 1 dX12_isSignByte_6 rfl rfl ?_
    refine aw_bipush 60 dX12_isSignByte_7 (by decide) ?_
    refine aw_iteT ?_
    refine aw_icmp_eq 24 dX12_isSignByte_9 (by decide) ?_ ?_
    · refine aw_iconst 1 dX12_isSignByte_24 (by decide) ?_
      refine aw_goto 29 dX12_isSignByte_25 (by decide) ?_
      exact aw_zreturn (b := true) rfl rfl dX12_isSignByte_29
    · refine aw_iload_n 1 dX12_isSignByte_12 rfl rfl ?_
      refine aw_bipush 62 dX12_isSignByte_13 (by decide) ?_
      refine aw_iteT ?_
      refine aw_icmp_eq 24 dX12_isSignByte_15 (by decide) ?_ ?_
      · refine aw_iconst 1 dX12_isSignByte_24 (by decide) ?_
        refine aw_goto 29 dX12_isSignByte_25 (by decide) ?_
        exact aw_zreturn (b := true) rfl rfl dX12_isSignByte_29
      · refine aw_iload_n 1 dX12_isSignByte_18 rfl rfl ?_
        refine aw_bipush 61 dX12_isSignByte_19 (by decide) ?_
        refine aw_iteT ?_
        refine aw_icmp_ne 28 dX12_isSignByte_21 (by decide) ?_ ?_
        · refine aw_iconst 0 dX12_isSignByte_28 (by decide) ?_
          exact aw_zreturn (b := false) rfl rfl dX12_isSignByte_29
        · refine aw_iconst 1 dX12_isSignByte_24 (by decide) ?_
          refine aw_goto 29 dX12_isSignByte_25 (by decide) ?_
          exact aw_zreturn (b := true) rfl rfl dX12_isSignByte_29
def F12_next_L8  : Nat → Mem → Option ((Unit) × Mem)
  | 0 => fun _ => none
  | n + 1 => fun σ  =>
    if (gI σ 12 0 0 9) ≤ (gI σ 12 0 0 15) then (some ((), σ)) else ((F12_look2 σ (gI σ 12 0 0 15)).bind fun v_2 => if v_2 = 10 then (bnd (sI σ 12 0 0 15 ((gI σ 12 0 0 15) + 1)) fun s_3 => (F12_next_L8  n) s_3 ) else ((F12_look2 σ (gI σ 12 0 0 15)).bind fun v_4 => if v_4 = 32 then (bnd (sI σ 12 0 0 15 ((gI σ 12 0 0 15) + 1)) fun s_5 => (F12_next_L8  n) s_5 ) else (some ((), σ))))
set_option maxRecDepth 20000 in
theorem c12_next_L8 {l : Launch} {D : va_G} {ad : Nat → Nat → Nat → Nat} {cid : Nat → Nat → Nat → ClassId} {α : Type} {emb : α → Option Value}  {G : Unit → Mem → Option (α × Mem)} (kx : ∀ r σ, AW (XM l D ad cid) M12_next 1 emb [(0, .ref (ad 12 0 0))] 58 [] σ (G r σ)) : ∀ (n : Nat) (σ : Mem) , AW (XM l D ad cid) M12_next 1 emb [(0, .ref (ad 12 0 0))] 8 [] σ (bd (F12_next_L8  n σ ) G) := by
  intro n
  induction n with
  | zero => intros; exact aw_none
  | succ n ih =>
    intro σ 
    refine aw_bdB ?_
    rw [F12_next_L8.eq_2]
    refine aw_aload_n 0 dX12_next_8 rfl rfl ?_
    refine aw_getf (fg_12_15 (by decide)) ci_12 (by decide) w_1473 dX12_next_9 ?_
    refine aw_aload_n 0 dX12_next_12 rfl rfl ?_
    refine aw_getf (fg_12_9 (by decide)) ci_12 (by decide) w_1467 dX12_next_13 ?_
    refine aw_icmp_ge 58 dX12_next_16 (by decide) ?_ ?_
    · exact kx () σ
    · refine aw_aload_n 0 dX12_next_19 rfl rfl ?_
      refine aw_aload_n 0 dX12_next_20 rfl rfl ?_
      refine aw_getf (fg_12_15 (by decide)) ci_12 (by decide) w_1473 dX12_next_21 ?_
      refine aw_callVO_I (c12_look2 σ (gI σ 12 0 0 15)) (io_12 (by decide)) ci_12 (by decide) mk_12_look2 w_1712 w_55 w_1710 rfl rfl (Nat.le_of_ble_eq_true rfl) dX12_next_24 (fun v_2 => ?_)
      refine aw_bipush 10 dX12_next_27 (by decide) ?_
      refine aw_icmp_eq 45 dX12_next_29 (by decide) ?_ ?_
      · refine aw_aload_n 0 dX12_next_45 rfl rfl ?_
        refine aw_dup dX12_next_46 rfl ?_
        refine aw_getf (fg_12_15 (by decide)) ci_12 (by decide) w_1473 dX12_next_47 ?_
        refine aw_iconst 1 dX12_next_50 (by decide) ?_
        refine aw_iadd dX12_next_51 ?_
        refine aw_putI (fs_12_15 (by decide)) ci_12 (by decide) rfl rfl w_1473 dX12_next_52 ?_
        refine aw_bndM (fun s_3 => ?_)
        refine aw_goto 8 dX12_next_55 (by decide) ?_
        exact ih s_3 
      · refine aw_aload_n 0 dX12_next_32 rfl rfl ?_
        refine aw_aload_n 0 dX12_next_33 rfl rfl ?_
        refine aw_getf (fg_12_15 (by decide)) ci_12 (by decide) w_1473 dX12_next_34 ?_
        refine aw_callVO_I (c12_look2 σ (gI σ 12 0 0 15)) (io_12 (by decide)) ci_12 (by decide) mk_12_look2 w_1712 w_55 w_1710 rfl rfl (Nat.le_of_ble_eq_true rfl) dX12_next_37 (fun v_4 => ?_)
        refine aw_bipush 32 dX12_next_40 (by decide) ?_
        refine aw_icmp_ne 58 dX12_next_42 (by decide) ?_ ?_
        · exact kx () σ
        · refine aw_aload_n 0 dX12_next_45 rfl rfl ?_
          refine aw_dup dX12_next_46 rfl ?_
          refine aw_getf (fg_12_15 (by decide)) ci_12 (by decide) w_1473 dX12_next_47 ?_
          refine aw_iconst 1 dX12_next_50 (by decide) ?_
          refine aw_iadd dX12_next_51 ?_
          refine aw_putI (fs_12_15 (by decide)) ci_12 (by decide) rfl rfl w_1473 dX12_next_52 ?_
          refine aw_bndM (fun s_5 => ?_)
          refine aw_goto 8 dX12_next_55 (by decide) ?_
          exact ih s_5 
def F12_next_L210  : Nat → Mem → Option ((Unit) × Mem)
  | 0 => fun _ => none
  | n + 1 => fun σ  =>
    (F12_look2 σ (gI σ 12 0 0 16)).bind fun v_15 => if (F12_isDigit v_15) = true then (if 4 ≤ ((gI σ 12 0 0 16) - (gI σ 12 0 0 15)) then (bnd (sI σ 12 0 0 16 ((gI σ 12 0 0 16) + 1)) fun s_16 => (F12_next_L210  n) s_16 ) else ((F12_look2 σ (gI σ 12 0 0 16)).bind fun v_17 => bnd (sI σ 12 0 0 17 (((10 * (gI σ 12 0 0 17)) + v_17) - 48)) fun s_18 => bnd (sI s_18 12 0 0 16 ((gI s_18 12 0 0 16) + 1)) fun s_19 => (F12_next_L210  n) s_19 )) else (some ((), σ))
set_option maxRecDepth 20000 in
theorem c12_next_L210 {l : Launch} {D : va_G} {ad : Nat → Nat → Nat → Nat} {cid : Nat → Nat → Nat → ClassId} {α : Type} {emb : α → Option Value}  {G : Unit → Mem → Option (α × Mem)} (kx : ∀ r σ, AW (XM l D ad cid) M12_next 1 emb [(0, .ref (ad 12 0 0))] 273 [] σ (G r σ)) : ∀ (n : Nat) (σ : Mem) , AW (XM l D ad cid) M12_next 1 emb [(0, .ref (ad 12 0 0))] 210 [] σ (bd (F12_next_L210  n σ ) G) := by
  intro n
  induction n with
  | zero => intros; exact aw_none
  | succ n ih =>
    intro σ 
    refine aw_bdB ?_
    rw [F12_next_L210.eq_2]
    refine aw_aload_n 0 dX12_next_210 rfl rfl ?_
    refine aw_aload_n 0 dX12_next_211 rfl rfl ?_
    refine aw_getf (fg_12_16 (by decide)) ci_12 (by decide) w_1474 dX12_next_212 ?_
    refine aw_callVO_I (c12_look2 σ (gI σ 12 0 0 16)) (io_12 (by decide)) ci_12 (by decide) mk_12_look2 w_1712 w_55 w_1710 rfl rfl (Nat.le_of_ble_eq_true rfl) dX12_next_215 (fun v_15 => ?_)
    refine aw_callST_B (c12_isDigit σ v_15) (by decide) mk_12_isDigit w_1720 w_1719 rfl rfl (Nat.le_of_ble_eq_true rfl) dX12_next_218 ?_
    refine aw_bif_eq 273 dX12_next_221 (by decide) ?_ ?_
    · exact kx () σ
    · refine aw_aload_n 0 dX12_next_224 rfl rfl ?_
      refine aw_getf (fg_12_16 (by decide)) ci_12 (by decide) w_1474 dX12_next_225 ?_
      refine aw_aload_n 0 dX12_next_228 rfl rfl ?_
      refine aw_getf (fg_12_15 (by decide)) ci_12 (by decide) w_1473 dX12_next_229 ?_
      refine aw_isub dX12_next_232 ?_
      refine aw_iconst 4 dX12_next_233 (by decide) ?_
      refine aw_icmp_ge 260 dX12_next_234 (by decide) ?_ ?_
      · refine aw_aload_n 0 dX12_next_260 rfl rfl ?_
        refine aw_dup dX12_next_261 rfl ?_
        refine aw_getf (fg_12_16 (by decide)) ci_12 (by decide) w_1474 dX12_next_262 ?_
        refine aw_iconst 1 dX12_next_265 (by decide) ?_
        refine aw_iadd dX12_next_266 ?_
        refine aw_putI (fs_12_16 (by decide)) ci_12 (by decide) rfl rfl w_1474 dX12_next_267 ?_
        refine aw_bndM (fun s_16 => ?_)
        refine aw_goto 210 dX12_next_270 (by decide) ?_
        exact ih s_16 
      · refine aw_aload_n 0 dX12_next_237 rfl rfl ?_
        refine aw_bipush 10 dX12_next_238 (by decide) ?_
        refine aw_aload_n 0 dX12_next_240 rfl rfl ?_
        refine aw_getf (fg_12_17 (by decide)) ci_12 (by decide) w_1475 dX12_next_241 ?_
        refine aw_imul dX12_next_244 ?_
        refine aw_aload_n 0 dX12_next_245 rfl rfl ?_
        refine aw_aload_n 0 dX12_next_246 rfl rfl ?_
        refine aw_getf (fg_12_16 (by decide)) ci_12 (by decide) w_1474 dX12_next_247 ?_
        refine aw_callVO_I (c12_look2 σ (gI σ 12 0 0 16)) (io_12 (by decide)) ci_12 (by decide) mk_12_look2 w_1712 w_55 w_1710 rfl rfl (Nat.le_of_ble_eq_true rfl) dX12_next_250 (fun v_17 => ?_)
        refine aw_iadd dX12_next_253 ?_
        refine aw_bipush 48 dX12_next_254 (by decide) ?_
        refine aw_isub dX12_next_256 ?_
        refine aw_putI (fs_12_17 (by decide)) ci_12 (by decide) rfl rfl w_1475 dX12_next_257 ?_
        refine aw_bndM (fun s_18 => ?_)
        refine aw_aload_n 0 dX12_next_260 rfl rfl ?_
        refine aw_dup dX12_next_261 rfl ?_
        refine aw_getf (fg_12_16 (by decide)) ci_12 (by decide) w_1474 dX12_next_262 ?_
        refine aw_iconst 1 dX12_next_265 (by decide) ?_
        refine aw_iadd dX12_next_266 ?_
        refine aw_putI (fs_12_16 (by decide)) ci_12 (by decide) rfl rfl w_1474 dX12_next_267 ?_
        refine aw_bndM (fun s_19 => ?_)
        refine aw_goto 210 dX12_next_270 (by decide) ?_
        exact ih s_19 
def F12_next_L109  : Nat → Mem → Option ((Unit) × Mem)
  | 0 => fun _ => none
  | n + 1 => fun σ  =>
    (F12_look2 σ (gI σ 12 0 0 16)).bind fun v_26 => if (F12_isLetter v_26) = true then (if 8 ≤ ((gI σ 12 0 0 16) - (gI σ 12 0 0 15)) then (bnd (sL σ 12 0 0 19 (-1)) fun s_27 => bnd (sI s_27 12 0 0 16 ((gI s_27 12 0 0 16) + 1)) fun s_28 => (F12_next_L109  n) s_28 ) else ((F12_look2 σ (gI σ 12 0 0 16)).bind fun v_29 => bnd (sL σ 12 0 0 19 ((((gL σ 12 0 0 19) * 32) + (Int32.toInt64 v_29)) - 96)) fun s_30 => bnd (sI s_30 12 0 0 16 ((gI s_30 12 0 0 16) + 1)) fun s_31 => (F12_next_L109  n) s_31 )) else (some ((), σ))
set_option maxRecDepth 20000 in
theorem c12_next_L109 {l : Launch} {D : va_G} {ad : Nat → Nat → Nat → Nat} {cid : Nat → Nat → Nat → ClassId} {α : Type} {emb : α → Option Value}  {G : Unit → Mem → Option (α × Mem)} (kx : ∀ r σ, AW (XM l D ad cid) M12_next 1 emb [(0, .ref (ad 12 0 0))] 182 [] σ (G r σ)) : ∀ (n : Nat) (σ : Mem) , AW (XM l D ad cid) M12_next 1 emb [(0, .ref (ad 12 0 0))] 109 [] σ (bd (F12_next_L109  n σ ) G) := by
  intro n
  induction n with
  | zero => intros; exact aw_none
  | succ n ih =>
    intro σ 
    refine aw_bdB ?_
    rw [F12_next_L109.eq_2]
    refine aw_aload_n 0 dX12_next_109 rfl rfl ?_
    refine aw_aload_n 0 dX12_next_110 rfl rfl ?_
    refine aw_getf (fg_12_16 (by decide)) ci_12 (by decide) w_1474 dX12_next_111 ?_
    refine aw_callVO_I (c12_look2 σ (gI σ 12 0 0 16)) (io_12 (by decide)) ci_12 (by decide) mk_12_look2 w_1712 w_55 w_1710 rfl rfl (Nat.le_of_ble_eq_true rfl) dX12_next_114 (fun v_26 => ?_)
    refine aw_callST_B (c12_isLetter σ v_26) (by decide) mk_12_isLetter w_1715 w_1714 rfl rfl (Nat.le_of_ble_eq_true rfl) dX12_next_117 ?_
    refine aw_bif_eq 182 dX12_next_120 (by decide) ?_ ?_
    · exact kx () σ
    · refine aw_aload_n 0 dX12_next_123 rfl rfl ?_
      refine aw_aload_n 0 dX12_next_124 rfl rfl ?_
      refine aw_getf (fg_12_16 (by decide)) ci_12 (by decide) w_1474 dX12_next_125 ?_
      refine aw_aload_n 0 dX12_next_128 rfl rfl ?_
      refine aw_getf (fg_12_15 (by decide)) ci_12 (by decide) w_1473 dX12_next_129 ?_
      refine aw_isub dX12_next_132 ?_
      refine aw_bipush 8 dX12_next_133 (by decide) ?_
      refine aw_icmp_ge 163 dX12_next_135 (by decide) ?_ ?_
      · refine aw_ldc2 w_1681 dX12_next_163 ?_
        refine aw_putL (fs_12_19 (by decide)) ci_12 (by decide) rfl rfl w_1477 dX12_next_166 ?_
        refine aw_bndM (fun s_27 => ?_)
        refine aw_aload_n 0 dX12_next_169 rfl rfl ?_
        refine aw_dup dX12_next_170 rfl ?_
        refine aw_getf (fg_12_16 (by decide)) ci_12 (by decide) w_1474 dX12_next_171 ?_
        refine aw_iconst 1 dX12_next_174 (by decide) ?_
        refine aw_iadd dX12_next_175 ?_
        refine aw_putI (fs_12_16 (by decide)) ci_12 (by decide) rfl rfl w_1474 dX12_next_176 ?_
        refine aw_bndM (fun s_28 => ?_)
        refine aw_goto 109 dX12_next_179 (by decide) ?_
        exact ih s_28 
      · refine aw_aload_n 0 dX12_next_138 rfl rfl ?_
        refine aw_getf (fg_12_19 (by decide)) ci_12 (by decide) w_1477 dX12_next_139 ?_
        refine aw_ldc2 w_1717 dX12_next_142 ?_
        refine aw_lmul dX12_next_145 ?_
        refine aw_aload_n 0 dX12_next_146 rfl rfl ?_
        refine aw_aload_n 0 dX12_next_147 rfl rfl ?_
        refine aw_getf (fg_12_16 (by decide)) ci_12 (by decide) w_1474 dX12_next_148 ?_
        refine aw_callVO_I (c12_look2 σ (gI σ 12 0 0 16)) (io_12 (by decide)) ci_12 (by decide) mk_12_look2 w_1712 w_55 w_1710 rfl rfl (Nat.le_of_ble_eq_true rfl) dX12_next_151 (fun v_29 => ?_)
        refine aw_i2l dX12_next_154 ?_
        refine aw_ladd dX12_next_155 ?_
        refine aw_ldc2 w_1718 dX12_next_156 ?_
        refine aw_lsub dX12_next_159 ?_
        refine aw_goto 166 dX12_next_160 (by decide) ?_
        refine aw_putL (fs_12_19 (by decide)) ci_12 (by decide) rfl rfl w_1477 dX12_next_166 ?_
        refine aw_bndM (fun s_30 => ?_)
        refine aw_aload_n 0 dX12_next_169 rfl rfl ?_
        refine aw_dup dX12_next_170 rfl ?_
        refine aw_getf (fg_12_16 (by decide)) ci_12 (by decide) w_1474 dX12_next_171 ?_
        refine aw_iconst 1 dX12_next_174 (by decide) ?_
        refine aw_iadd dX12_next_175 ?_
        refine aw_putI (fs_12_16 (by decide)) ci_12 (by decide) rfl rfl w_1474 dX12_next_176 ?_
        refine aw_bndM (fun s_31 => ?_)
        refine aw_goto 109 dX12_next_179 (by decide) ?_
        exact ih s_31 
def F12_next_p58 (σ : Mem)  : Option (Unit × Mem) :=
  bnd (sI σ 12 0 0 16 (gI σ 12 0 0 15)) fun s_8 => if (gI s_8 12 0 0 15) < (gI s_8 12 0 0 9) then ((F12_look2 s_8 (gI s_8 12 0 0 15)).bind fun v_9 => if (F12_isLetter v_9) = true then (bnd (sI s_8 12 0 0 14 1) fun s_24 => bnd (sL s_24 12 0 0 19 0) fun s_25 => bd (F12_next_L109  fuelK s_25 ) fun r_32 s_33 => bnd (sI s_33 12 0 0 18 ((gI s_33 12 0 0 16) - (gI s_33 12 0 0 15))) fun s_34 => some ((), s_34)) else (if (F12_isDigit v_9) = true then (bnd (sI s_8 12 0 0 17 0) fun s_14 => bd (F12_next_L210  fuelK s_14 ) fun r_20 s_21 => if ((gI s_21 12 0 0 16) - (gI s_21 12 0 0 15)) ≤ 4 then (bnd (sI s_21 12 0 0 14 2) fun s_22 => some ((), s_22)) else (bnd (sI s_21 12 0 0 14 4) fun s_23 => some ((), s_23))) else (bnd (sI s_8 12 0 0 16 ((gI s_8 12 0 0 15) + 1)) fun s_10 => bnd (sI s_10 12 0 0 17 v_9) fun s_11 => if (F12_isSignByte v_9) = true then (bnd (sI s_11 12 0 0 14 3) fun s_13 => some ((), s_13)) else (bnd (sI s_11 12 0 0 14 4) fun s_12 => some ((), s_12))))) else (bnd (sI s_8 12 0 0 14 0) fun s_35 => some ((), s_35))
set_option maxRecDepth 20000 in
theorem c12_next_p58 {l : Launch} {D : va_G} {ad : Nat → Nat → Nat → Nat} {cid : Nat → Nat → Nat → ClassId} (σ : Mem)  : AW (XM l D ad cid) M12_next 1 eU [(0, .ref (ad 12 0 0))] 58 [] σ ((F12_next_p58 σ).bind some) := by
  unfold F12_next_p58
  refine aw_aload_n 0 dX12_next_58 rfl rfl ?_
  refine aw_aload_n 0 dX12_next_59 rfl rfl ?_
  refine aw_getf (fg_12_15 (by decide)) ci_12 (by decide) w_1473 dX12_next_60 ?_
  refine aw_putI (fs_12_16 (by decide)) ci_12 (by decide) rfl rfl w_1474 dX12_next_63 ?_
  refine aw_bndM (fun s_8 => ?_)
  refine aw_aload_n 0 dX12_next_66 rfl rfl ?_
  refine aw_getf (fg_12_15 (by decide)) ci_12 (by decide) w_1473 dX12_next_67 ?_
  refine aw_aload_n 0 dX12_next_70 rfl rfl ?_
  refine aw_getf (fg_12_9 (by decide)) ci_12 (by decide) w_1467 dX12_next_71 ?_
  refine aw_icmp_lt 83 dX12_next_74 (by decide) ?_ ?_
  · refine aw_aload_n 0 dX12_next_83 rfl rfl ?_
    refine aw_aload_n 0 dX12_next_84 rfl rfl ?_
    refine aw_getf (fg_12_15 (by decide)) ci_12 (by decide) w_1473 dX12_next_85 ?_
    refine aw_callVO_I (c12_look2 s_8 (gI s_8 12 0 0 15)) (io_12 (by decide)) ci_12 (by decide) mk_12_look2 w_1712 w_55 w_1710 rfl rfl (Nat.le_of_ble_eq_true rfl) dX12_next_88 (fun v_9 => ?_)
    refine aw_istore_n (ls' := [(0, .ref (ad 12 0 0)), (1, .int v_9)]) [1, 0] dX12_next_91 rfl (by decide) rfl ?_
    refine aw_iload_n 1 dX12_next_92 rfl rfl ?_
    refine aw_callST_B (c12_isLetter s_8 v_9) (by decide) mk_12_isLetter w_1715 w_1714 rfl rfl (Nat.le_of_ble_eq_true rfl) dX12_next_93 ?_
    refine aw_bif_eq 198 dX12_next_96 (by decide) ?_ ?_
    · refine aw_iload_n 1 dX12_next_198 rfl rfl ?_
      refine aw_callST_B (c12_isDigit s_8 v_9) (by decide) mk_12_isDigit w_1720 w_1719 rfl rfl (Nat.le_of_ble_eq_true rfl) dX12_next_199 ?_
      refine aw_bif_eq 298 dX12_next_202 (by decide) ?_ ?_
      · refine aw_aload_n 0 dX12_next_298 rfl rfl ?_
        refine aw_aload_n 0 dX12_next_299 rfl rfl ?_
        refine aw_getf (fg_12_15 (by decide)) ci_12 (by decide) w_1473 dX12_next_300 ?_
        refine aw_iconst 1 dX12_next_303 (by decide) ?_
        refine aw_iadd dX12_next_304 ?_
        refine aw_putI (fs_12_16 (by decide)) ci_12 (by decide) rfl rfl w_1474 dX12_next_305 ?_
        refine aw_bndM (fun s_10 => ?_)
        refine aw_aload_n 0 dX12_next_308 rfl rfl ?_
        refine aw_iload_n 1 dX12_next_309 rfl rfl ?_
        refine aw_putI (fs_12_17 (by decide)) ci_12 (by decide) rfl rfl w_1475 dX12_next_310 ?_
        refine aw_bndM (fun s_11 => ?_)
        refine aw_aload_n 0 dX12_next_313 rfl rfl ?_
        refine aw_aload_n 0 dX12_next_314 rfl rfl ?_
        refine aw_iload_n 1 dX12_next_315 rfl rfl ?_
        refine aw_callVT_B (c12_isSignByte s_11 v_9) (io_12 (by decide)) ci_12 (by decide) mk_12_isSignByte w_1724 w_56 w_1722 rfl rfl (Nat.le_of_ble_eq_true rfl) dX12_next_316 ?_
        refine aw_bif_eq 326 dX12_next_319 (by decide) ?_ ?_
        · refine aw_iconst 4 dX12_next_326 (by decide) ?_
          refine aw_putI (fs_12_14 (by decide)) ci_12 (by decide) rfl rfl w_1472 dX12_next_327 ?_
          refine aw_bndM (fun s_12 => ?_)
          exact aw_return rfl dX12_next_330
        · refine aw_iconst 3 dX12_next_322 (by decide) ?_
          refine aw_goto 327 dX12_next_323 (by decide) ?_
          refine aw_putI (fs_12_14 (by decide)) ci_12 (by decide) rfl rfl w_1472 dX12_next_327 ?_
          refine aw_bndM (fun s_13 => ?_)
          exact aw_return rfl dX12_next_330
      · refine aw_aload_n 0 dX12_next_205 rfl rfl ?_
        refine aw_iconst 0 dX12_next_206 (by decide) ?_
        refine aw_putI (fs_12_17 (by decide)) ci_12 (by decide) rfl rfl w_1475 dX12_next_207 ?_
        refine aw_bndM (fun s_14 => ?_)
        refine aw_ls (ls' := [(0, .ref (ad 12 0 0))]) [0] rfl ?_
        refine aw_assocW ?_
        refine c12_next_L210  (fun r_20 s_21 => ?_) fuelK s_14 
        refine aw_aload_n 0 dX12_next_273 rfl rfl ?_
        refine aw_aload_n 0 dX12_next_274 rfl rfl ?_
        refine aw_getf (fg_12_16 (by decide)) ci_12 (by decide) w_1474 dX12_next_275 ?_
        refine aw_aload_n 0 dX12_next_278 rfl rfl ?_
        refine aw_getf (fg_12_15 (by decide)) ci_12 (by decide) w_1473 dX12_next_279 ?_
        refine aw_isub dX12_next_282 ?_
        refine aw_iconst 4 dX12_next_283 (by decide) ?_
        refine aw_icmp_le 291 dX12_next_284 (by decide) ?_ ?_
        · refine aw_iconst 2 dX12_next_291 (by decide) ?_
          refine aw_putI (fs_12_14 (by decide)) ci_12 (by decide) rfl rfl w_1472 dX12_next_292 ?_
          refine aw_bndM (fun s_22 => ?_)
          refine aw_goto 330 dX12_next_295 (by decide) ?_
          exact aw_return rfl dX12_next_330
        · refine aw_iconst 4 dX12_next_287 (by decide) ?_
          refine aw_goto 292 dX12_next_288 (by decide) ?_
          refine aw_putI (fs_12_14 (by decide)) ci_12 (by decide) rfl rfl w_1472 dX12_next_292 ?_
          refine aw_bndM (fun s_23 => ?_)
          refine aw_goto 330 dX12_next_295 (by decide) ?_
          exact aw_return rfl dX12_next_330
    · refine aw_aload_n 0 dX12_next_99 rfl rfl ?_
      refine aw_iconst 1 dX12_next_100 (by decide) ?_
      refine aw_putI (fs_12_14 (by decide)) ci_12 (by decide) rfl rfl w_1472 dX12_next_101 ?_
      refine aw_bndM (fun s_24 => ?_)
      refine aw_aload_n 0 dX12_next_104 rfl rfl ?_
      refine aw_lconst 0 dX12_next_105 (by decide) ?_
      refine aw_putL (fs_12_19 (by decide)) ci_12 (by decide) rfl rfl w_1477 dX12_next_106 ?_
      refine aw_bndM (fun s_25 => ?_)
      refine aw_ls (ls' := [(0, .ref (ad 12 0 0))]) [0] rfl ?_
      refine aw_assocW ?_
      refine c12_next_L109  (fun r_32 s_33 => ?_) fuelK s_25 
      refine aw_aload_n 0 dX12_next_182 rfl rfl ?_
      refine aw_aload_n 0 dX12_next_183 rfl rfl ?_
      refine aw_getf (fg_12_16 (by decide)) ci_12 (by decide) w_1474 dX12_next_184 ?_
      refine aw_aload_n 0 dX12_next_187 rfl rfl ?_
      refine aw_getf (fg_12_15 (by decide)) ci_12 (by decide) w_1473 dX12_next_188 ?_
      refine aw_isub dX12_next_191 ?_
      refine aw_putI (fs_12_18 (by decide)) ci_12 (by decide) rfl rfl w_1476 dX12_next_192 ?_
      refine aw_bndM (fun s_34 => ?_)
      refine aw_goto 330 dX12_next_195 (by decide) ?_
      exact aw_return rfl dX12_next_330
  · refine aw_aload_n 0 dX12_next_77 rfl rfl ?_
    refine aw_iconst 0 dX12_next_78 (by decide) ?_
    refine aw_putI (fs_12_14 (by decide)) ci_12 (by decide) rfl rfl w_1472 dX12_next_79 ?_
    refine aw_bndM (fun s_35 => ?_)
    exact aw_return rfl dX12_next_82
def F12_next (σ : Mem)  : Option (Unit × Mem) :=
  bnd (sI σ 12 0 0 15 (gI σ 12 0 0 16)) fun s_1 => bd (F12_next_L8  fuelK s_1 ) fun r_6 s_7 => F12_next_p58 s_7
set_option maxRecDepth 20000 in
theorem c12_next {l : Launch} {D : va_G} {ad : Nat → Nat → Nat → Nat} {cid : Nat → Nat → Nat → ClassId} (σ : Mem)  : AMF (XM l D ad cid) M12_next 1 eU [.ref (ad 12 0 0)] σ (F12_next σ) := by
  refine AM.ofW (by decide +kernel) (Nat.le_of_ble_eq_true rfl) (ls := [(0, .ref (ad 12 0 0))]) rfl ?_
  refine aw_entry ?_
  unfold F12_next
  refine aw_aload_n 0 dX12_next_0 rfl rfl ?_
  refine aw_aload_n 0 dX12_next_1 rfl rfl ?_
  refine aw_getf (fg_12_16 (by decide)) ci_12 (by decide) w_1474 dX12_next_2 ?_
  refine aw_putI (fs_12_15 (by decide)) ci_12 (by decide) rfl rfl w_1473 dX12_next_5 ?_
  refine aw_bndM (fun s_1 => ?_)
  refine aw_assocW ?_
  refine c12_next_L8  (fun r_6 s_7 => ?_) fuelK s_1 
  exact c12_next_p58 s_7 
def F12_opens (σ : Mem) (x1 : Int32) (x2 : Int32) : Option (Bool × Mem) :=
  if x1 < 0 then (bd (F12_no σ 5) fun v_1 s_2 => some (v_1, s_2)) else (if (gI σ 12 0 0 8) < x1 then (bd (F12_no σ 5) fun v_3 s_4 => some (v_3, s_4)) else (if x1 ≤ x2 then (bnd (sI σ 12 0 0 9 x1) fun s_5 => bnd (sI s_5 12 0 0 8 0) fun s_6 => bnd (sI s_6 12 0 0 16 0) fun s_7 => bnd (sI s_7 12 0 0 12 0) fun s_8 => bd (F12_next s_8) fun _ s_9 => some (true, s_9)) else (bd (F12_no σ 5) fun v_10 s_11 => some (v_10, s_11))))
set_option maxRecDepth 20000 in
theorem c12_opens {l : Launch} {D : va_G} {ad : Nat → Nat → Nat → Nat} {cid : Nat → Nat → Nat → ClassId} (σ : Mem) (x1 : Int32) (x2 : Int32) : AMF (XM l D ad cid) M12_opens 2 eB [.ref (ad 12 0 0), .int x1, .int x2] σ (F12_opens σ x1 x2) := by
  refine AM.ofW (by decide +kernel) (Nat.le_of_ble_eq_true rfl) (ls := [(0, .ref (ad 12 0 0)), (1, .int x1), (2, .int x2)]) rfl ?_
  refine aw_entry ?_
  unfold F12_opens
  refine aw_iload_n 1 dX12_opens_0 rfl rfl ?_
  refine aw_if_lt 17 dX12_opens_1 (by decide) ?_ ?_
  · refine aw_aload_n 0 dX12_opens_17 rfl rfl ?_
    refine aw_iconst 5 dX12_opens_18 (by decide) ?_
    refine aw_callVW_B (c12_no σ 5) (io_12 (by decide)) ci_12 (by decide) mk_12_no w_1660 w_49 w_1658 rfl rfl (Nat.le_of_ble_eq_true rfl) dX12_opens_19 (fun v_1 s_2 => ?_)
    exact aw_zreturn (b := v_1) rfl rfl dX12_opens_22
  · refine aw_iload_n 1 dX12_opens_4 rfl rfl ?_
    refine aw_aload_n 0 dX12_opens_5 rfl rfl ?_
    refine aw_getf (fg_12_8 (by decide)) ci_12 (by decide) w_1466 dX12_opens_6 ?_
    refine aw_icmp_gt 17 dX12_opens_9 (by decide) ?_ ?_
    · refine aw_aload_n 0 dX12_opens_17 rfl rfl ?_
      refine aw_iconst 5 dX12_opens_18 (by decide) ?_
      refine aw_callVW_B (c12_no σ 5) (io_12 (by decide)) ci_12 (by decide) mk_12_no w_1660 w_49 w_1658 rfl rfl (Nat.le_of_ble_eq_true rfl) dX12_opens_19 (fun v_3 s_4 => ?_)
      exact aw_zreturn (b := v_3) rfl rfl dX12_opens_22
    · refine aw_iload_n 1 dX12_opens_12 rfl rfl ?_
      refine aw_iload_n 2 dX12_opens_13 rfl rfl ?_
      refine aw_icmp_le 23 dX12_opens_14 (by decide) ?_ ?_
      · refine aw_aload_n 0 dX12_opens_23 rfl rfl ?_
        refine aw_iload_n 1 dX12_opens_24 rfl rfl ?_
        refine aw_putI (fs_12_9 (by decide)) ci_12 (by decide) rfl rfl w_1467 dX12_opens_25 ?_
        refine aw_bndM (fun s_5 => ?_)
        refine aw_aload_n 0 dX12_opens_28 rfl rfl ?_
        refine aw_iconst 0 dX12_opens_29 (by decide) ?_
        refine aw_putI (fs_12_8 (by decide)) ci_12 (by decide) rfl rfl w_1466 dX12_opens_30 ?_
        refine aw_bndM (fun s_6 => ?_)
        refine aw_aload_n 0 dX12_opens_33 rfl rfl ?_
        refine aw_iconst 0 dX12_opens_34 (by decide) ?_
        refine aw_putI (fs_12_16 (by decide)) ci_12 (by decide) rfl rfl w_1474 dX12_opens_35 ?_
        refine aw_bndM (fun s_7 => ?_)
        refine aw_aload_n 0 dX12_opens_38 rfl rfl ?_
        refine aw_iconst 0 dX12_opens_39 (by decide) ?_
        refine aw_putI (fs_12_12 (by decide)) ci_12 (by decide) rfl rfl w_1470 dX12_opens_40 ?_
        refine aw_bndM (fun s_8 => ?_)
        refine aw_aload_n 0 dX12_opens_43 rfl rfl ?_
        refine aw_callVW_U (c12_next s_8 ) (io_12 (by decide)) ci_12 (by decide) mk_12_next w_1708 w_54 w_1706 rfl rfl (Nat.le_of_ble_eq_true rfl) dX12_opens_44 (fun _ s_9 => ?_)
        refine aw_iconst 1 dX12_opens_47 (by decide) ?_
        exact aw_zreturn (b := true) rfl rfl dX12_opens_48
      · refine aw_aload_n 0 dX12_opens_17 rfl rfl ?_
        refine aw_iconst 5 dX12_opens_18 (by decide) ?_
        refine aw_callVW_B (c12_no σ 5) (io_12 (by decide)) ci_12 (by decide) mk_12_no w_1660 w_49 w_1658 rfl rfl (Nat.le_of_ble_eq_true rfl) dX12_opens_19 (fun v_10 s_11 => ?_)
        exact aw_zreturn (b := v_10) rfl rfl dX12_opens_22
def F12_begins (σ : Mem) (x1 : Int32) : Option (Unit × Mem) :=
  chk 3000 (x1 + 0) <| bnd (sI σ 12 0 5 (Int32.toNatClampNeg (x1 + 0)) 24) fun s_1 => chk 3000 (x1 + 1) <| bnd (sI s_1 12 0 5 (Int32.toNatClampNeg (x1 + 1)) 8) fun s_2 => chk 3000 (x1 + 2) <| bnd (sI s_2 12 0 5 (Int32.toNatClampNeg (x1 + 2)) 12) fun s_3 => some ((), s_3)
set_option maxRecDepth 20000 in
theorem c12_begins {l : Launch} {D : va_G} {ad : Nat → Nat → Nat → Nat} {cid : Nat → Nat → Nat → ClassId} (σ : Mem) (x1 : Int32) : AMF (XM l D ad cid) M12_begins 0 eU [.ref (ad 12 0 0), .int x1] σ (F12_begins σ x1) := by
  refine AM.ofW (by decide +kernel) (Nat.le_of_ble_eq_true rfl) (ls := [(0, .ref (ad 12 0 0)), (1, .int x1)]) rfl ?_
  refine aw_entry ?_
  unfold F12_begins
  refine aw_aload_n 0 dX12_begins_0 rfl rfl ?_
  refine aw_getf (fg_12_20 (by decide)) ci_12 (by decide) w_1478 dX12_begins_1 ?_
  refine aw_iload_n 1 dX12_begins_4 rfl rfl ?_
  refine aw_iconst 0 dX12_begins_5 (by decide) ?_
  refine aw_iadd dX12_begins_6 ?_
  refine aw_bipush 24 dX12_begins_7 (by decide) ?_
  refine aw_iastore (ar_12_5 (by decide)) dX12_begins_9 ?_
  refine aw_bndM (fun s_1 => ?_)
  refine aw_aload_n 0 dX12_begins_10 rfl rfl ?_
  refine aw_getf (fg_12_20 (by decide)) ci_12 (by decide) w_1478 dX12_begins_11 ?_
  refine aw_iload_n 1 dX12_begins_14 rfl rfl ?_
  refine aw_iconst 1 dX12_begins_15 (by decide) ?_
  refine aw_iadd dX12_begins_16 ?_
  refine aw_bipush 8 dX12_begins_17 (by decide) ?_
  refine aw_iastore (ar_12_5 (by decide)) dX12_begins_19 ?_
  refine aw_bndM (fun s_2 => ?_)
  refine aw_aload_n 0 dX12_begins_20 rfl rfl ?_
  refine aw_getf (fg_12_20 (by decide)) ci_12 (by decide) w_1478 dX12_begins_21 ?_
  refine aw_iload_n 1 dX12_begins_24 rfl rfl ?_
  refine aw_iconst 2 dX12_begins_25 (by decide) ?_
  refine aw_iadd dX12_begins_26 ?_
  refine aw_bipush 12 dX12_begins_27 (by decide) ?_
  refine aw_iastore (ar_12_5 (by decide)) dX12_begins_29 ?_
  refine aw_bndM (fun s_3 => ?_)
  exact aw_return rfl dX12_begins_30
def F12_spelled_p91 (x5 : Int32) (q0 : Int64) : Int64 :=
  if x5 ≤ 0 then (q0) else ((((q0 * 32) + (Int32.toInt64 x5)) - 96))
set_option maxRecDepth 20000 in
theorem c12_spelled_p91 {l : Launch} {D : va_G} {ad : Nat → Nat → Nat → Nat} {cid : Nat → Nat → Nat → ClassId} (σ : Mem) (x5 : Int32) (q0 : Int64) : AW (XM l D ad cid) M12_spelled 0 eL [(5, .int x5)] 91 [.long q0] σ ((some (F12_spelled_p91 x5 q0)).bind (fun v => some (v, σ))) := by
  unfold F12_spelled_p91
  refine aw_lstore (ls' := [(5, .int x5), (6, .long q0)]) [1, 0] dX12_spelled_91 (by decide) rfl ?_
  refine aw_iload 0 dX12_spelled_93 rfl ?_
  refine aw_iteT ?_
  refine aw_if_le 115 dX12_spelled_95 (by decide) ?_ ?_
  · refine aw_lload 1 dX12_spelled_115 rfl ?_
    exact aw_lreturn rfl dX12_spelled_117
  · refine aw_lload 1 dX12_spelled_98 rfl ?_
    refine aw_ldc2 w_1717 dX12_spelled_100 ?_
    refine aw_lmul dX12_spelled_103 ?_
    refine aw_iload 0 dX12_spelled_104 rfl ?_
    refine aw_i2l dX12_spelled_106 ?_
    refine aw_ladd dX12_spelled_107 ?_
    refine aw_ldc2 w_1718 dX12_spelled_108 ?_
    refine aw_lsub dX12_spelled_111 ?_
    refine aw_goto 117 dX12_spelled_112 (by decide) ?_
    exact aw_lreturn rfl dX12_spelled_117
def F12_spelled_p65 (x4 : Int32) (x5 : Int32) (q0 : Int64) : Int64 :=
  if x4 ≤ 0 then (F12_spelled_p91 x5 q0) else (F12_spelled_p91 x5 (((q0 * 32) + (Int32.toInt64 x4)) - 96))
set_option maxRecDepth 20000 in
theorem c12_spelled_p65 {l : Launch} {D : va_G} {ad : Nat → Nat → Nat → Nat} {cid : Nat → Nat → Nat → ClassId} (σ : Mem) (x4 : Int32) (x5 : Int32) (q0 : Int64) : AW (XM l D ad cid) M12_spelled 0 eL [(4, .int x4), (5, .int x5)] 65 [.long q0] σ ((some (F12_spelled_p65 x4 x5 q0)).bind (fun v => some (v, σ))) := by
  unfold F12_spelled_p65
  refine aw_lstore (ls' := [(4, .int x4), (5, .int x5), (6, .long q0)]) [1, 2, 0] dX12_spelled_65 (by decide) rfl ?_
  refine aw_iload 0 dX12_spelled_67 rfl ?_
  refine aw_iteT ?_
  refine aw_if_le 89 dX12_spelled_69 (by decide) ?_ ?_
  · refine aw_lload 2 dX12_spelled_89 rfl ?_
    refine aw_ls (ls' := [(5, .int x5)]) [1] rfl ?_
    exact c12_spelled_p91 σ x5 q0
  · refine aw_lload 2 dX12_spelled_72 rfl ?_
    refine aw_ldc2 w_1717 dX12_spelled_74 ?_
    refine aw_lmul dX12_spelled_77 ?_
    refine aw_iload 0 dX12_spelled_78 rfl ?_
    refine aw_i2l dX12_spelled_80 ?_
    refine aw_ladd dX12_spelled_81 ?_
    refine aw_ldc2 w_1718 dX12_spelled_82 ?_
    refine aw_lsub dX12_spelled_85 ?_
    refine aw_goto 91 dX12_spelled_86 (by decide) ?_
    refine aw_ls (ls' := [(5, .int x5)]) [1] rfl ?_
    exact c12_spelled_p91 σ x5 (((q0 * 32) + (Int32.toInt64 x4)) - 96)
def F12_spelled_p41 (x3 : Int32) (x4 : Int32) (x5 : Int32) (q0 : Int64) : Int64 :=
  if x3 ≤ 0 then (F12_spelled_p65 x4 x5 q0) else (F12_spelled_p65 x4 x5 (((q0 * 32) + (Int32.toInt64 x3)) - 96))
set_option maxRecDepth 20000 in
theorem c12_spelled_p41 {l : Launch} {D : va_G} {ad : Nat → Nat → Nat → Nat} {cid : Nat → Nat → Nat → ClassId} (σ : Mem) (x3 : Int32) (x4 : Int32) (x5 : Int32) (q0 : Int64) : AW (XM l D ad cid) M12_spelled 0 eL [(3, .int x3), (4, .int x4), (5, .int x5)] 41 [.long q0] σ ((some (F12_spelled_p41 x3 x4 x5 q0)).bind (fun v => some (v, σ))) := by
  unfold F12_spelled_p41
  refine aw_lstore (ls' := [(3, .int x3), (4, .int x4), (5, .int x5), (6, .long q0)]) [1, 2, 3, 0] dX12_spelled_41 (by decide) rfl ?_
  refine aw_iload_n 0 dX12_spelled_43 rfl rfl ?_
  refine aw_iteT ?_
  refine aw_if_le 63 dX12_spelled_44 (by decide) ?_ ?_
  · refine aw_lload 3 dX12_spelled_63 rfl ?_
    refine aw_ls (ls' := [(4, .int x4), (5, .int x5)]) [1, 2] rfl ?_
    exact c12_spelled_p65 σ x4 x5 q0
  · refine aw_lload 3 dX12_spelled_47 rfl ?_
    refine aw_ldc2 w_1717 dX12_spelled_49 ?_
    refine aw_lmul dX12_spelled_52 ?_
    refine aw_iload_n 0 dX12_spelled_53 rfl rfl ?_
    refine aw_i2l dX12_spelled_54 ?_
    refine aw_ladd dX12_spelled_55 ?_
    refine aw_ldc2 w_1718 dX12_spelled_56 ?_
    refine aw_lsub dX12_spelled_59 ?_
    refine aw_goto 65 dX12_spelled_60 (by decide) ?_
    refine aw_ls (ls' := [(4, .int x4), (5, .int x5)]) [1, 2] rfl ?_
    exact c12_spelled_p65 σ x4 x5 (((q0 * 32) + (Int32.toInt64 x3)) - 96)
def F12_spelled (x0 : Int32) (x1 : Int32) (x2 : Int32) (x3 : Int32) (x4 : Int32) (x5 : Int32) : Int64 :=
  bnd (((((Int32.toInt64 x0) - 96) * 32) + (Int32.toInt64 x1)) - 96) fun v_1 => if x2 ≤ 0 then (F12_spelled_p41 x3 x4 x5 v_1) else (F12_spelled_p41 x3 x4 x5 (((v_1 * 32) + (Int32.toInt64 x2)) - 96))
set_option maxRecDepth 20000 in
theorem c12_spelled {l : Launch} {D : va_G} {ad : Nat → Nat → Nat → Nat} {cid : Nat → Nat → Nat → ClassId} (σ : Mem) (x0 : Int32) (x1 : Int32) (x2 : Int32) (x3 : Int32) (x4 : Int32) (x5 : Int32) : AMF (XM l D ad cid) M12_spelled 0 eL [.int x0, .int x1, .int x2, .int x3, .int x4, .int x5] σ (some (F12_spelled x0 x1 x2 x3 x4 x5, σ)) := by
  refine AM.ofW (by decide +kernel) (Nat.le_of_ble_eq_true rfl) (ls := [(0, .int x0), (1, .int x1), (2, .int x2), (3, .int x3), (4, .int x4), (5, .int x5)]) rfl ?_
  refine aw_entryT ?_
  unfold F12_spelled
  refine aw_iload_n 0 dX12_spelled_0 rfl rfl ?_
  refine aw_i2l dX12_spelled_1 ?_
  refine aw_ldc2 w_1718 dX12_spelled_2 ?_
  refine aw_lsub dX12_spelled_5 ?_
  refine aw_ldc2 w_1717 dX12_spelled_6 ?_
  refine aw_lmul dX12_spelled_9 ?_
  refine aw_iload_n 1 dX12_spelled_10 rfl rfl ?_
  refine aw_i2l dX12_spelled_11 ?_
  refine aw_ladd dX12_spelled_12 ?_
  refine aw_ldc2 w_1718 dX12_spelled_13 ?_
  refine aw_lsub dX12_spelled_16 ?_
  refine aw_bndT_long (fun v_1 => ?_)
  refine aw_lstore (ls' := [(2, .int x2), (3, .int x3), (4, .int x4), (5, .int x5), (6, .long v_1)]) [3, 4, 5, 6, 0] dX12_spelled_17 (by decide) rfl ?_
  refine aw_iload_n 0 dX12_spelled_19 rfl rfl ?_
  refine aw_iteT ?_
  refine aw_if_le 39 dX12_spelled_20 (by decide) ?_ ?_
  · refine aw_lload 4 dX12_spelled_39 rfl ?_
    refine aw_ls (ls' := [(3, .int x3), (4, .int x4), (5, .int x5)]) [1, 2, 3] rfl ?_
    exact c12_spelled_p41 σ x3 x4 x5 v_1
  · refine aw_lload 4 dX12_spelled_23 rfl ?_
    refine aw_ldc2 w_1717 dX12_spelled_25 ?_
    refine aw_lmul dX12_spelled_28 ?_
    refine aw_iload_n 0 dX12_spelled_29 rfl rfl ?_
    refine aw_i2l dX12_spelled_30 ?_
    refine aw_ladd dX12_spelled_31 ?_
    refine aw_ldc2 w_1718 dX12_spelled_32 ?_
    refine aw_lsub dX12_spelled_35 ?_
    refine aw_goto 41 dX12_spelled_36 (by decide) ?_
    refine aw_ls (ls' := [(3, .int x3), (4, .int x4), (5, .int x5)]) [1, 2, 3] rfl ?_
    exact c12_spelled_p41 σ x3 x4 x5 (((v_1 * 32) + (Int32.toInt64 x2)) - 96)
def F12_isWord (σ : Mem) (y1 : Int64) : Bool :=
  if (gI σ 12 0 0 14) = 1 then (if (gL σ 12 0 0 19) = y1 then (true) else (false)) else (false)
set_option maxRecDepth 20000 in
theorem c12_isWord {l : Launch} {D : va_G} {ad : Nat → Nat → Nat → Nat} {cid : Nat → Nat → Nat → ClassId} (σ : Mem) (y1 : Int64) : AMF (XM l D ad cid) M12_isWord 0 eB [.ref (ad 12 0 0), .long y1] σ (some (F12_isWord σ y1, σ)) := by
  refine AM.ofW (by decide +kernel) (Nat.le_of_ble_eq_true rfl) (ls := [(0, .ref (ad 12 0 0)), (1, .long y1)]) rfl ?_
  refine aw_entryT ?_
  unfold F12_isWord
  refine aw_aload_n 0 dX12_isWord_0 rfl rfl ?_
  refine aw_getf (fg_12_14 (by decide)) ci_12 (by decide) w_1472 dX12_isWord_1 ?_
  refine aw_iconst 1 dX12_isWord_4 (by decide) ?_
  refine aw_iteT ?_
  refine aw_icmp_ne 21 dX12_isWord_5 (by decide) ?_ ?_
  · refine aw_iconst 0 dX12_isWord_21 (by decide) ?_
    exact aw_zreturn (b := false) rfl rfl dX12_isWord_22
  · refine aw_aload_n 0 dX12_isWord_8 rfl rfl ?_
    refine aw_getf (fg_12_19 (by decide)) ci_12 (by decide) w_1477 dX12_isWord_9 ?_
    refine aw_lload_n 1 dX12_isWord_12 rfl rfl ?_
    refine aw_lcmp dX12_isWord_13 ?_
    refine aw_iteT ?_
    refine aw_lif_ne 21 dX12_isWord_14 (by decide) ?_ ?_
    · refine aw_iconst 0 dX12_isWord_21 (by decide) ?_
      exact aw_zreturn (b := false) rfl rfl dX12_isWord_22
    · refine aw_iconst 1 dX12_isWord_17 (by decide) ?_
      refine aw_goto 22 dX12_isWord_18 (by decide) ?_
      exact aw_zreturn (b := true) rfl rfl dX12_isWord_22
def F12_isTube (σ : Mem)  : Bool :=
  (F12_isWord σ (F12_spelled 116 117 98 101 0 0))
set_option maxRecDepth 20000 in
theorem c12_isTube {l : Launch} {D : va_G} {ad : Nat → Nat → Nat → Nat} {cid : Nat → Nat → Nat → ClassId} (σ : Mem)  : AMF (XM l D ad cid) M12_isTube 1 eB [.ref (ad 12 0 0)] σ (some (F12_isTube σ, σ)) := by
  refine AM.ofW (by decide +kernel) (Nat.le_of_ble_eq_true rfl) (ls := [(0, .ref (ad 12 0 0))]) rfl ?_
  refine aw_entryT ?_
  unfold F12_isTube
  refine aw_aload_n 0 dX12_isTube_0 rfl rfl ?_
  refine aw_bipush 116 dX12_isTube_1 (by decide) ?_
  refine aw_bipush 117 dX12_isTube_3 (by decide) ?_
  refine aw_bipush 98 dX12_isTube_5 (by decide) ?_
  refine aw_bipush 101 dX12_isTube_7 (by decide) ?_
  refine aw_iconst 0 dX12_isTube_9 (by decide) ?_
  refine aw_iconst 0 dX12_isTube_10 (by decide) ?_
  refine aw_callST_L (c12_spelled σ 116 117 98 101 0 0) (by decide) mk_12_spelled w_1731 w_1730 rfl rfl (Nat.le_of_ble_eq_true rfl) dX12_isTube_11 ?_
  refine aw_callVT_B (c12_isWord σ (F12_spelled 116 117 98 101 0 0)) (io_12 (by decide)) ci_12 (by decide) mk_12_isWord w_1735 w_58 w_1733 rfl rfl (Nat.le_of_ble_eq_true rfl) dX12_isTube_14 ?_
  exact aw_zreturn (b := (F12_isWord σ (F12_spelled 116 117 98 101 0 0))) rfl rfl dX12_isTube_17
def F12_fail (σ : Mem) (x1 : Int32) (x2 : Int32) : Option (Unit × Mem) :=
  if (gI σ 12 0 0 12) ≤ 0 then (bnd (sI σ 12 0 0 12 x1) fun s_1 => bnd (sI s_1 12 0 0 13 x2) fun s_2 => some ((), s_2)) else (some ((), σ))
set_option maxRecDepth 20000 in
theorem c12_fail {l : Launch} {D : va_G} {ad : Nat → Nat → Nat → Nat} {cid : Nat → Nat → Nat → ClassId} (σ : Mem) (x1 : Int32) (x2 : Int32) : AMF (XM l D ad cid) M12_fail 0 eU [.ref (ad 12 0 0), .int x1, .int x2] σ (F12_fail σ x1 x2) := by
  refine AM.ofW (by decide +kernel) (Nat.le_of_ble_eq_true rfl) (ls := [(0, .ref (ad 12 0 0)), (1, .int x1), (2, .int x2)]) rfl ?_
  refine aw_entry ?_
  unfold F12_fail
  refine aw_aload_n 0 dX12_fail_0 rfl rfl ?_
  refine aw_getf (fg_12_12 (by decide)) ci_12 (by decide) w_1470 dX12_fail_1 ?_
  refine aw_if_le 8 dX12_fail_4 (by decide) ?_ ?_
  · refine aw_aload_n 0 dX12_fail_8 rfl rfl ?_
    refine aw_iload_n 1 dX12_fail_9 rfl rfl ?_
    refine aw_putI (fs_12_12 (by decide)) ci_12 (by decide) rfl rfl w_1470 dX12_fail_10 ?_
    refine aw_bndM (fun s_1 => ?_)
    refine aw_aload_n 0 dX12_fail_13 rfl rfl ?_
    refine aw_iload_n 2 dX12_fail_14 rfl rfl ?_
    refine aw_putI (fs_12_13 (by decide)) ci_12 (by decide) rfl rfl w_1471 dX12_fail_15 ?_
    refine aw_bndM (fun s_2 => ?_)
    exact aw_return rfl dX12_fail_18
  · exact aw_return rfl dX12_fail_7
def F12_wrong (σ : Mem)  : Option (Unit × Mem) :=
  if (gI σ 12 0 0 14) = 4 then (bd (F12_fail σ 1 (gI σ 12 0 0 15)) fun _ s_2 => some ((), s_2)) else (bd (F12_fail σ 2 (gI σ 12 0 0 15)) fun _ s_1 => some ((), s_1))
set_option maxRecDepth 20000 in
theorem c12_wrong {l : Launch} {D : va_G} {ad : Nat → Nat → Nat → Nat} {cid : Nat → Nat → Nat → ClassId} (σ : Mem)  : AMF (XM l D ad cid) M12_wrong 1 eU [.ref (ad 12 0 0)] σ (F12_wrong σ) := by
  refine AM.ofW (by decide +kernel) (Nat.le_of_ble_eq_true rfl) (ls := [(0, .ref (ad 12 0 0))]) rfl ?_
  refine aw_entry ?_
  unfold F12_wrong
  refine aw_aload_n 0 dX12_wrong_0 rfl rfl ?_
  refine aw_aload_n 0 dX12_wrong_1 rfl rfl ?_
  refine aw_getf (fg_12_14 (by decide)) ci_12 (by decide) w_1472 dX12_wrong_2 ?_
  refine aw_iconst 4 dX12_wrong_5 (by decide) ?_
  refine aw_icmp_ne 13 dX12_wrong_6 (by decide) ?_ ?_
  · refine aw_iconst 2 dX12_wrong_13 (by decide) ?_
    refine aw_aload_n 0 dX12_wrong_14 rfl rfl ?_
    refine aw_getf (fg_12_15 (by decide)) ci_12 (by decide) w_1473 dX12_wrong_15 ?_
    refine aw_callVW_U (c12_fail σ 2 (gI σ 12 0 0 15)) (io_12 (by decide)) ci_12 (by decide) mk_12_fail w_1743 w_60 w_1741 rfl rfl (Nat.le_of_ble_eq_true rfl) dX12_wrong_18 (fun _ s_1 => ?_)
    exact aw_return rfl dX12_wrong_21
  · refine aw_iconst 1 dX12_wrong_9 (by decide) ?_
    refine aw_goto 14 dX12_wrong_10 (by decide) ?_
    refine aw_aload_n 0 dX12_wrong_14 rfl rfl ?_
    refine aw_getf (fg_12_15 (by decide)) ci_12 (by decide) w_1473 dX12_wrong_15 ?_
    refine aw_callVW_U (c12_fail σ 1 (gI σ 12 0 0 15)) (io_12 (by decide)) ci_12 (by decide) mk_12_fail w_1743 w_60 w_1741 rfl rfl (Nat.le_of_ble_eq_true rfl) dX12_wrong_18 (fun _ s_2 => ?_)
    exact aw_return rfl dX12_wrong_21
def F12_isIn (y0 : Int64) (y2 : Int64) (y4 : Int64) : Bool :=
  if y0 < y2 then (false) else (if y4 < y0 then (false) else (true))
set_option maxRecDepth 20000 in
theorem c12_isIn {l : Launch} {D : va_G} {ad : Nat → Nat → Nat → Nat} {cid : Nat → Nat → Nat → ClassId} (σ : Mem) (y0 : Int64) (y2 : Int64) (y4 : Int64) : AMF (XM l D ad cid) M12_isIn 0 eB [.long y0, .long y2, .long y4] σ (some (F12_isIn y0 y2 y4, σ)) := by
  refine AM.ofW (by decide +kernel) (Nat.le_of_ble_eq_true rfl) (ls := [(0, .long y0), (2, .long y2), (4, .long y4)]) rfl ?_
  refine aw_entryT ?_
  unfold F12_isIn
  refine aw_lload_n 0 dX12_isIn_0 rfl rfl ?_
  refine aw_lload_n 1 dX12_isIn_1 rfl rfl ?_
  refine aw_lcmp dX12_isIn_2 ?_
  refine aw_iteT ?_
  refine aw_lif_lt 17 dX12_isIn_3 (by decide) ?_ ?_
  · refine aw_iconst 0 dX12_isIn_17 (by decide) ?_
    exact aw_zreturn (b := false) rfl rfl dX12_isIn_18
  · refine aw_lload_n 0 dX12_isIn_6 rfl rfl ?_
    refine aw_lload 2 dX12_isIn_7 rfl ?_
    refine aw_lcmp dX12_isIn_9 ?_
    refine aw_iteT ?_
    refine aw_lif_gt 17 dX12_isIn_10 (by decide) ?_ ?_
    · refine aw_iconst 0 dX12_isIn_17 (by decide) ?_
      exact aw_zreturn (b := false) rfl rfl dX12_isIn_18
    · refine aw_iconst 1 dX12_isIn_13 (by decide) ?_
      refine aw_goto 18 dX12_isIn_14 (by decide) ?_
      exact aw_zreturn (b := true) rfl rfl dX12_isIn_18
def F12_count_p50 (σ : Mem)  : Option (Int32 × Mem) :=
  if (gI σ 12 0 0 12) ≤ 0 then (bnd (gI σ 12 0 0 17) fun v_1 => bd (F12_next σ) fun _ s_2 => some (v_1, s_2)) else (some (0, σ))
set_option maxRecDepth 20000 in
theorem c12_count_p50 {l : Launch} {D : va_G} {ad : Nat → Nat → Nat → Nat} {cid : Nat → Nat → Nat → ClassId} (σ : Mem)  : AW (XM l D ad cid) M12_count 2 eI [(0, .ref (ad 12 0 0))] 50 [] σ ((F12_count_p50 σ).bind some) := by
  unfold F12_count_p50
  refine aw_aload_n 0 dX12_count_50 rfl rfl ?_
  refine aw_getf (fg_12_12 (by decide)) ci_12 (by decide) w_1470 dX12_count_51 ?_
  refine aw_if_le 59 dX12_count_54 (by decide) ?_ ?_
  · refine aw_aload_n 0 dX12_count_59 rfl rfl ?_
    refine aw_getf (fg_12_17 (by decide)) ci_12 (by decide) w_1475 dX12_count_60 ?_
    refine aw_bnd_int (fun v_1 => ?_)
    refine aw_istore_n (ls' := [(0, .ref (ad 12 0 0)), (3, .int v_1)]) [1, 0] dX12_count_63 rfl (by decide) rfl ?_
    refine aw_aload_n 0 dX12_count_64 rfl rfl ?_
    refine aw_callVW_U (c12_next σ ) (io_12 (by decide)) ci_12 (by decide) mk_12_next w_1708 w_54 w_1706 rfl rfl (Nat.le_of_ble_eq_true rfl) dX12_count_65 (fun _ s_2 => ?_)
    refine aw_iload_n 1 dX12_count_68 rfl rfl ?_
    exact aw_ireturn rfl dX12_count_69
  · refine aw_iconst 0 dX12_count_57 (by decide) ?_
    exact aw_ireturn rfl dX12_count_58
def F12_count_p19 (σ : Mem) (x1 : Int32) (x2 : Int32) : Option (Int32 × Mem) :=
  if (gI σ 12 0 0 12) = 0 then (if (F12_isIn (Int32.toInt64 (gI σ 12 0 0 17)) (Int32.toInt64 x1) (Int32.toInt64 x2)) = true then (F12_count_p50 σ) else (bd (F12_fail σ 4 (gI σ 12 0 0 15)) fun _ s_3 => F12_count_p50 s_3)) else (F12_count_p50 σ)
set_option maxRecDepth 20000 in
theorem c12_count_p19 {l : Launch} {D : va_G} {ad : Nat → Nat → Nat → Nat} {cid : Nat → Nat → Nat → ClassId} (σ : Mem) (x1 : Int32) (x2 : Int32) : AW (XM l D ad cid) M12_count 2 eI [(0, .ref (ad 12 0 0)), (1, .int x1), (2, .int x2)] 19 [] σ ((F12_count_p19 σ x1 x2).bind some) := by
  unfold F12_count_p19
  refine aw_aload_n 0 dX12_count_19 rfl rfl ?_
  refine aw_getf (fg_12_12 (by decide)) ci_12 (by decide) w_1470 dX12_count_20 ?_
  refine aw_if_ne 50 dX12_count_23 (by decide) ?_ ?_
  · refine aw_ls (ls' := [(0, .ref (ad 12 0 0))]) [0] rfl ?_
    exact c12_count_p50 σ 
  · refine aw_aload_n 0 dX12_count_26 rfl rfl ?_
    refine aw_getf (fg_12_17 (by decide)) ci_12 (by decide) w_1475 dX12_count_27 ?_
    refine aw_i2l dX12_count_30 ?_
    refine aw_iload_n 1 dX12_count_31 rfl rfl ?_
    refine aw_i2l dX12_count_32 ?_
    refine aw_iload_n 2 dX12_count_33 rfl rfl ?_
    refine aw_i2l dX12_count_34 ?_
    refine aw_callST_B (c12_isIn σ (Int32.toInt64 (gI σ 12 0 0 17)) (Int32.toInt64 x1) (Int32.toInt64 x2)) (by decide) mk_12_isIn w_1754 w_1753 rfl rfl (Nat.le_of_ble_eq_true rfl) dX12_count_35 ?_
    refine aw_bif_ne 50 dX12_count_38 (by decide) ?_ ?_
    · refine aw_ls (ls' := [(0, .ref (ad 12 0 0))]) [0] rfl ?_
      exact c12_count_p50 σ 
    · refine aw_aload_n 0 dX12_count_41 rfl rfl ?_
      refine aw_iconst 4 dX12_count_42 (by decide) ?_
      refine aw_aload_n 0 dX12_count_43 rfl rfl ?_
      refine aw_getf (fg_12_15 (by decide)) ci_12 (by decide) w_1473 dX12_count_44 ?_
      refine aw_callVW_U (c12_fail σ 4 (gI σ 12 0 0 15)) (io_12 (by decide)) ci_12 (by decide) mk_12_fail w_1743 w_60 w_1741 rfl rfl (Nat.le_of_ble_eq_true rfl) dX12_count_47 (fun _ s_3 => ?_)
      refine aw_ls (ls' := [(0, .ref (ad 12 0 0))]) [0] rfl ?_
      exact c12_count_p50 s_3 
def F12_count (σ : Mem) (x1 : Int32) (x2 : Int32) : Option (Int32 × Mem) :=
  if (gI σ 12 0 0 12) = 0 then (if (gI σ 12 0 0 14) = 2 then (F12_count_p19 σ x1 x2) else (bd (F12_wrong σ) fun _ s_4 => F12_count_p19 s_4 x1 x2)) else (F12_count_p19 σ x1 x2)
set_option maxRecDepth 20000 in
theorem c12_count {l : Launch} {D : va_G} {ad : Nat → Nat → Nat → Nat} {cid : Nat → Nat → Nat → ClassId} (σ : Mem) (x1 : Int32) (x2 : Int32) : AMF (XM l D ad cid) M12_count 2 eI [.ref (ad 12 0 0), .int x1, .int x2] σ (F12_count σ x1 x2) := by
  refine AM.ofW (by decide +kernel) (Nat.le_of_ble_eq_true rfl) (ls := [(0, .ref (ad 12 0 0)), (1, .int x1), (2, .int x2)]) rfl ?_
  refine aw_entry ?_
  unfold F12_count
  refine aw_aload_n 0 dX12_count_0 rfl rfl ?_
  refine aw_getf (fg_12_12 (by decide)) ci_12 (by decide) w_1470 dX12_count_1 ?_
  refine aw_if_ne 19 dX12_count_4 (by decide) ?_ ?_
  · exact c12_count_p19 σ x1 x2
  · refine aw_aload_n 0 dX12_count_7 rfl rfl ?_
    refine aw_getf (fg_12_14 (by decide)) ci_12 (by decide) w_1472 dX12_count_8 ?_
    refine aw_iconst 2 dX12_count_11 (by decide) ?_
    refine aw_icmp_eq 19 dX12_count_12 (by decide) ?_ ?_
    · exact c12_count_p19 σ x1 x2
    · refine aw_aload_n 0 dX12_count_15 rfl rfl ?_
      refine aw_callVW_U (c12_wrong σ ) (io_12 (by decide)) ci_12 (by decide) mk_12_wrong w_1751 w_62 w_1749 rfl rfl (Nat.le_of_ble_eq_true rfl) dX12_count_16 (fun _ s_4 => ?_)
      exact c12_count_p19 s_4 x1 x2
def F12_isBore (σ : Mem)  : Bool :=
  (F12_isWord σ (F12_spelled 98 111 114 101 0 0))
set_option maxRecDepth 20000 in
theorem c12_isBore {l : Launch} {D : va_G} {ad : Nat → Nat → Nat → Nat} {cid : Nat → Nat → Nat → ClassId} (σ : Mem)  : AMF (XM l D ad cid) M12_isBore 1 eB [.ref (ad 12 0 0)] σ (some (F12_isBore σ, σ)) := by
  refine AM.ofW (by decide +kernel) (Nat.le_of_ble_eq_true rfl) (ls := [(0, .ref (ad 12 0 0))]) rfl ?_
  refine aw_entryT ?_
  unfold F12_isBore
  refine aw_aload_n 0 dX12_isBore_0 rfl rfl ?_
  refine aw_bipush 98 dX12_isBore_1 (by decide) ?_
  refine aw_bipush 111 dX12_isBore_3 (by decide) ?_
  refine aw_bipush 114 dX12_isBore_5 (by decide) ?_
  refine aw_bipush 101 dX12_isBore_7 (by decide) ?_
  refine aw_iconst 0 dX12_isBore_9 (by decide) ?_
  refine aw_iconst 0 dX12_isBore_10 (by decide) ?_
  refine aw_callST_L (c12_spelled σ 98 111 114 101 0 0) (by decide) mk_12_spelled w_1731 w_1730 rfl rfl (Nat.le_of_ble_eq_true rfl) dX12_isBore_11 ?_
  refine aw_callVT_B (c12_isWord σ (F12_spelled 98 111 114 101 0 0)) (io_12 (by decide)) ci_12 (by decide) mk_12_isWord w_1735 w_58 w_1733 rfl rfl (Nat.le_of_ble_eq_true rfl) dX12_isBore_14 ?_
  exact aw_zreturn (b := (F12_isWord σ (F12_spelled 98 111 114 101 0 0))) rfl rfl dX12_isBore_17
def F12_must (σ : Mem) (z1 : Bool) : Option (Unit × Mem) :=
  if (gI σ 12 0 0 12) ≤ 0 then (if z1 = true then (bd (F12_next σ) fun _ s_2 => some ((), s_2)) else (bd (F12_wrong σ) fun _ s_1 => some ((), s_1))) else (some ((), σ))
set_option maxRecDepth 20000 in
theorem c12_must {l : Launch} {D : va_G} {ad : Nat → Nat → Nat → Nat} {cid : Nat → Nat → Nat → ClassId} (σ : Mem) (z1 : Bool) : AMF (XM l D ad cid) M12_must 2 eU [.ref (ad 12 0 0), .int (b2i z1)] σ (F12_must σ z1) := by
  refine AM.ofW (by decide +kernel) (Nat.le_of_ble_eq_true rfl) (ls := [(0, .ref (ad 12 0 0)), (1, .int (b2i z1))]) rfl ?_
  refine aw_entry ?_
  unfold F12_must
  refine aw_aload_n 0 dX12_must_0 rfl rfl ?_
  refine aw_getf (fg_12_12 (by decide)) ci_12 (by decide) w_1470 dX12_must_1 ?_
  refine aw_if_le 8 dX12_must_4 (by decide) ?_ ?_
  · refine aw_iload_n 1 dX12_must_8 rfl rfl ?_
    refine aw_bif_eq 19 dX12_must_9 (by decide) ?_ ?_
    · refine aw_aload_n 0 dX12_must_19 rfl rfl ?_
      refine aw_callVW_U (c12_wrong σ ) (io_12 (by decide)) ci_12 (by decide) mk_12_wrong w_1751 w_62 w_1749 rfl rfl (Nat.le_of_ble_eq_true rfl) dX12_must_20 (fun _ s_1 => ?_)
      exact aw_return rfl dX12_must_23
    · refine aw_aload_n 0 dX12_must_12 rfl rfl ?_
      refine aw_callVW_U (c12_next σ ) (io_12 (by decide)) ci_12 (by decide) mk_12_next w_1708 w_54 w_1706 rfl rfl (Nat.le_of_ble_eq_true rfl) dX12_must_13 (fun _ s_2 => ?_)
      refine aw_goto 23 dX12_must_16 (by decide) ?_
      exact aw_return rfl dX12_must_23
  · exact aw_return rfl dX12_must_7
def F12_readTube_p16 (σ : Mem)  : Option (Unit × Mem) :=
  if (gI σ 12 0 0 12) ≤ 0 then (bnd (sB σ 12 0 0 24 true) fun s_1 => bd (F12_next s_1) fun _ s_2 => bd (F12_count s_2 12 48) fun v_3 s_4 => chk 3000 2400 <| bnd (sI s_4 12 0 5 (Int32.toNatClampNeg 2400) v_3) fun s_5 => bd (F12_must s_5 (F12_isBore s_5)) fun _ s_6 => bd (F12_count s_6 3 12) fun v_7 s_8 => chk 3000 2401 <| bnd (sI s_8 12 0 5 (Int32.toNatClampNeg 2401) v_7) fun s_9 => some ((), s_9)) else (some ((), σ))
set_option maxRecDepth 20000 in
theorem c12_readTube_p16 {l : Launch} {D : va_G} {ad : Nat → Nat → Nat → Nat} {cid : Nat → Nat → Nat → ClassId} (σ : Mem)  : AW (XM l D ad cid) M12_readTube 3 eU [(0, .ref (ad 12 0 0))] 16 [] σ ((F12_readTube_p16 σ).bind some) := by
  unfold F12_readTube_p16
  refine aw_aload_n 0 dX12_readTube_16 rfl rfl ?_
  refine aw_getf (fg_12_12 (by decide)) ci_12 (by decide) w_1470 dX12_readTube_17 ?_
  refine aw_if_le 24 dX12_readTube_20 (by decide) ?_ ?_
  · refine aw_aload_n 0 dX12_readTube_24 rfl rfl ?_
    refine aw_iconst 1 dX12_readTube_25 (by decide) ?_
    refine aw_putB (v := true) rfl (fs_12_24 (by decide)) ci_12 (by decide) rfl rfl w_1482 dX12_readTube_26 ?_
    refine aw_bndM (fun s_1 => ?_)
    refine aw_aload_n 0 dX12_readTube_29 rfl rfl ?_
    refine aw_callVW_U (c12_next s_1 ) (io_12 (by decide)) ci_12 (by decide) mk_12_next w_1708 w_54 w_1706 rfl rfl (Nat.le_of_ble_eq_true rfl) dX12_readTube_30 (fun _ s_2 => ?_)
    refine aw_aload_n 0 dX12_readTube_33 rfl rfl ?_
    refine aw_getf (fg_12_20 (by decide)) ci_12 (by decide) w_1478 dX12_readTube_34 ?_
    refine aw_sipush 2400 dX12_readTube_37 (by decide) ?_
    refine aw_aload_n 0 dX12_readTube_40 rfl rfl ?_
    refine aw_bipush 12 dX12_readTube_41 (by decide) ?_
    refine aw_bipush 48 dX12_readTube_43 (by decide) ?_
    refine aw_callVW_I (c12_count s_2 12 48) (io_12 (by decide)) ci_12 (by decide) mk_12_count w_1747 w_61 w_1745 rfl rfl (Nat.le_of_ble_eq_true rfl) dX12_readTube_45 (fun v_3 s_4 => ?_)
    refine aw_iastore (ar_12_5 (by decide)) dX12_readTube_48 ?_
    refine aw_bndM (fun s_5 => ?_)
    refine aw_aload_n 0 dX12_readTube_49 rfl rfl ?_
    refine aw_aload_n 0 dX12_readTube_50 rfl rfl ?_
    refine aw_callVT_B (c12_isBore s_5 ) (io_12 (by decide)) ci_12 (by decide) mk_12_isBore w_1758 w_63 w_1756 rfl rfl (Nat.le_of_ble_eq_true rfl) dX12_readTube_51 ?_
    refine aw_callVW_U (c12_must s_5 (F12_isBore s_5)) (io_12 (by decide)) ci_12 (by decide) mk_12_must w_1762 w_64 w_1760 rfl rfl (Nat.le_of_ble_eq_true rfl) dX12_readTube_54 (fun _ s_6 => ?_)
    refine aw_aload_n 0 dX12_readTube_57 rfl rfl ?_
    refine aw_getf (fg_12_20 (by decide)) ci_12 (by decide) w_1478 dX12_readTube_58 ?_
    refine aw_sipush 2401 dX12_readTube_61 (by decide) ?_
    refine aw_aload_n 0 dX12_readTube_64 rfl rfl ?_
    refine aw_iconst 3 dX12_readTube_65 (by decide) ?_
    refine aw_bipush 12 dX12_readTube_66 (by decide) ?_
    refine aw_callVW_I (c12_count s_6 3 12) (io_12 (by decide)) ci_12 (by decide) mk_12_count w_1747 w_61 w_1745 rfl rfl (Nat.le_of_ble_eq_true rfl) dX12_readTube_68 (fun v_7 s_8 => ?_)
    refine aw_iastore (ar_12_5 (by decide)) dX12_readTube_71 ?_
    refine aw_bndM (fun s_9 => ?_)
    exact aw_return rfl dX12_readTube_72
  · exact aw_return rfl dX12_readTube_23
def F12_readTube (σ : Mem)  : Option (Unit × Mem) :=
  if (gB σ 12 0 0 24) = true then (bd (F12_fail σ 5 (gI σ 12 0 0 15)) fun _ s_10 => F12_readTube_p16 s_10) else (F12_readTube_p16 σ)
set_option maxRecDepth 20000 in
theorem c12_readTube {l : Launch} {D : va_G} {ad : Nat → Nat → Nat → Nat} {cid : Nat → Nat → Nat → ClassId} (σ : Mem)  : AMF (XM l D ad cid) M12_readTube 3 eU [.ref (ad 12 0 0)] σ (F12_readTube σ) := by
  refine AM.ofW (by decide +kernel) (Nat.le_of_ble_eq_true rfl) (ls := [(0, .ref (ad 12 0 0))]) rfl ?_
  refine aw_entry ?_
  unfold F12_readTube
  refine aw_aload_n 0 dX12_readTube_0 rfl rfl ?_
  refine aw_getf (fg_12_24 (by decide)) ci_12 (by decide) w_1482 dX12_readTube_1 ?_
  refine aw_bif_eq 16 dX12_readTube_4 (by decide) ?_ ?_
  · exact c12_readTube_p16 σ 
  · refine aw_aload_n 0 dX12_readTube_7 rfl rfl ?_
    refine aw_iconst 5 dX12_readTube_8 (by decide) ?_
    refine aw_aload_n 0 dX12_readTube_9 rfl rfl ?_
    refine aw_getf (fg_12_15 (by decide)) ci_12 (by decide) w_1473 dX12_readTube_10 ?_
    refine aw_callVW_U (c12_fail σ 5 (gI σ 12 0 0 15)) (io_12 (by decide)) ci_12 (by decide) mk_12_fail w_1743 w_60 w_1741 rfl rfl (Nat.le_of_ble_eq_true rfl) dX12_readTube_13 (fun _ s_10 => ?_)
    exact c12_readTube_p16 s_10 
def F12_isFar (σ : Mem)  : Bool :=
  (F12_isWord σ (F12_spelled 102 97 114 0 0 0))
set_option maxRecDepth 20000 in
theorem c12_isFar {l : Launch} {D : va_G} {ad : Nat → Nat → Nat → Nat} {cid : Nat → Nat → Nat → ClassId} (σ : Mem)  : AMF (XM l D ad cid) M12_isFar 1 eB [.ref (ad 12 0 0)] σ (some (F12_isFar σ, σ)) := by
  refine AM.ofW (by decide +kernel) (Nat.le_of_ble_eq_true rfl) (ls := [(0, .ref (ad 12 0 0))]) rfl ?_
  refine aw_entryT ?_
  unfold F12_isFar
  refine aw_aload_n 0 dX12_isFar_0 rfl rfl ?_
  refine aw_bipush 102 dX12_isFar_1 (by decide) ?_
  refine aw_bipush 97 dX12_isFar_3 (by decide) ?_
  refine aw_bipush 114 dX12_isFar_5 (by decide) ?_
  refine aw_iconst 0 dX12_isFar_7 (by decide) ?_
  refine aw_iconst 0 dX12_isFar_8 (by decide) ?_
  refine aw_iconst 0 dX12_isFar_9 (by decide) ?_
  refine aw_callST_L (c12_spelled σ 102 97 114 0 0 0) (by decide) mk_12_spelled w_1731 w_1730 rfl rfl (Nat.le_of_ble_eq_true rfl) dX12_isFar_10 ?_
  refine aw_callVT_B (c12_isWord σ (F12_spelled 102 97 114 0 0 0)) (io_12 (by decide)) ci_12 (by decide) mk_12_isWord w_1735 w_58 w_1733 rfl rfl (Nat.le_of_ble_eq_true rfl) dX12_isFar_13 ?_
  exact aw_zreturn (b := (F12_isWord σ (F12_spelled 102 97 114 0 0 0))) rfl rfl dX12_isFar_16
def F12_readFar_p16 (σ : Mem)  : Option (Unit × Mem) :=
  if (gI σ 12 0 0 12) ≤ 0 then (bnd (sB σ 12 0 0 25 true) fun s_1 => bd (F12_next s_1) fun _ s_2 => bd (F12_count s_2 4 20) fun v_3 s_4 => chk 3000 2402 <| bnd (sI s_4 12 0 5 (Int32.toNatClampNeg 2402) v_3) fun s_5 => some ((), s_5)) else (some ((), σ))
set_option maxRecDepth 20000 in
theorem c12_readFar_p16 {l : Launch} {D : va_G} {ad : Nat → Nat → Nat → Nat} {cid : Nat → Nat → Nat → ClassId} (σ : Mem)  : AW (XM l D ad cid) M12_readFar 3 eU [(0, .ref (ad 12 0 0))] 16 [] σ ((F12_readFar_p16 σ).bind some) := by
  unfold F12_readFar_p16
  refine aw_aload_n 0 dX12_readFar_16 rfl rfl ?_
  refine aw_getf (fg_12_12 (by decide)) ci_12 (by decide) w_1470 dX12_readFar_17 ?_
  refine aw_if_le 24 dX12_readFar_20 (by decide) ?_ ?_
  · refine aw_aload_n 0 dX12_readFar_24 rfl rfl ?_
    refine aw_iconst 1 dX12_readFar_25 (by decide) ?_
    refine aw_putB (v := true) rfl (fs_12_25 (by decide)) ci_12 (by decide) rfl rfl w_1483 dX12_readFar_26 ?_
    refine aw_bndM (fun s_1 => ?_)
    refine aw_aload_n 0 dX12_readFar_29 rfl rfl ?_
    refine aw_callVW_U (c12_next s_1 ) (io_12 (by decide)) ci_12 (by decide) mk_12_next w_1708 w_54 w_1706 rfl rfl (Nat.le_of_ble_eq_true rfl) dX12_readFar_30 (fun _ s_2 => ?_)
    refine aw_aload_n 0 dX12_readFar_33 rfl rfl ?_
    refine aw_getf (fg_12_20 (by decide)) ci_12 (by decide) w_1478 dX12_readFar_34 ?_
    refine aw_sipush 2402 dX12_readFar_37 (by decide) ?_
    refine aw_aload_n 0 dX12_readFar_40 rfl rfl ?_
    refine aw_iconst 4 dX12_readFar_41 (by decide) ?_
    refine aw_bipush 20 dX12_readFar_42 (by decide) ?_
    refine aw_callVW_I (c12_count s_2 4 20) (io_12 (by decide)) ci_12 (by decide) mk_12_count w_1747 w_61 w_1745 rfl rfl (Nat.le_of_ble_eq_true rfl) dX12_readFar_44 (fun v_3 s_4 => ?_)
    refine aw_iastore (ar_12_5 (by decide)) dX12_readFar_47 ?_
    refine aw_bndM (fun s_5 => ?_)
    exact aw_return rfl dX12_readFar_48
  · exact aw_return rfl dX12_readFar_23
def F12_readFar (σ : Mem)  : Option (Unit × Mem) :=
  if (gB σ 12 0 0 25) = true then (bd (F12_fail σ 5 (gI σ 12 0 0 15)) fun _ s_6 => F12_readFar_p16 s_6) else (F12_readFar_p16 σ)
set_option maxRecDepth 20000 in
theorem c12_readFar {l : Launch} {D : va_G} {ad : Nat → Nat → Nat → Nat} {cid : Nat → Nat → Nat → ClassId} (σ : Mem)  : AMF (XM l D ad cid) M12_readFar 3 eU [.ref (ad 12 0 0)] σ (F12_readFar σ) := by
  refine AM.ofW (by decide +kernel) (Nat.le_of_ble_eq_true rfl) (ls := [(0, .ref (ad 12 0 0))]) rfl ?_
  refine aw_entry ?_
  unfold F12_readFar
  refine aw_aload_n 0 dX12_readFar_0 rfl rfl ?_
  refine aw_getf (fg_12_25 (by decide)) ci_12 (by decide) w_1483 dX12_readFar_1 ?_
  refine aw_bif_eq 16 dX12_readFar_4 (by decide) ?_ ?_
  · exact c12_readFar_p16 σ 
  · refine aw_aload_n 0 dX12_readFar_7 rfl rfl ?_
    refine aw_iconst 5 dX12_readFar_8 (by decide) ?_
    refine aw_aload_n 0 dX12_readFar_9 rfl rfl ?_
    refine aw_getf (fg_12_15 (by decide)) ci_12 (by decide) w_1473 dX12_readFar_10 ?_
    refine aw_callVW_U (c12_fail σ 5 (gI σ 12 0 0 15)) (io_12 (by decide)) ci_12 (by decide) mk_12_fail w_1743 w_60 w_1741 rfl rfl (Nat.le_of_ble_eq_true rfl) dX12_readFar_13 (fun _ s_6 => ?_)
    exact c12_readFar_p16 s_6 
def F12_isWind (σ : Mem)  : Bool :=
  (F12_isWord σ (F12_spelled 119 105 110 100 0 0))
set_option maxRecDepth 20000 in
theorem c12_isWind {l : Launch} {D : va_G} {ad : Nat → Nat → Nat → Nat} {cid : Nat → Nat → Nat → ClassId} (σ : Mem)  : AMF (XM l D ad cid) M12_isWind 1 eB [.ref (ad 12 0 0)] σ (some (F12_isWind σ, σ)) := by
  refine AM.ofW (by decide +kernel) (Nat.le_of_ble_eq_true rfl) (ls := [(0, .ref (ad 12 0 0))]) rfl ?_
  refine aw_entryT ?_
  unfold F12_isWind
  refine aw_aload_n 0 dX12_isWind_0 rfl rfl ?_
  refine aw_bipush 119 dX12_isWind_1 (by decide) ?_
  refine aw_bipush 105 dX12_isWind_3 (by decide) ?_
  refine aw_bipush 110 dX12_isWind_5 (by decide) ?_
  refine aw_bipush 100 dX12_isWind_7 (by decide) ?_
  refine aw_iconst 0 dX12_isWind_9 (by decide) ?_
  refine aw_iconst 0 dX12_isWind_10 (by decide) ?_
  refine aw_callST_L (c12_spelled σ 119 105 110 100 0 0) (by decide) mk_12_spelled w_1731 w_1730 rfl rfl (Nat.le_of_ble_eq_true rfl) dX12_isWind_11 ?_
  refine aw_callVT_B (c12_isWord σ (F12_spelled 119 105 110 100 0 0)) (io_12 (by decide)) ci_12 (by decide) mk_12_isWord w_1735 w_58 w_1733 rfl rfl (Nat.le_of_ble_eq_true rfl) dX12_isWind_14 ?_
  exact aw_zreturn (b := (F12_isWord σ (F12_spelled 119 105 110 100 0 0))) rfl rfl dX12_isWind_17
def F12_isLeft (σ : Mem)  : Bool :=
  (F12_isWord σ (F12_spelled 108 101 102 116 0 0))
set_option maxRecDepth 20000 in
theorem c12_isLeft {l : Launch} {D : va_G} {ad : Nat → Nat → Nat → Nat} {cid : Nat → Nat → Nat → ClassId} (σ : Mem)  : AMF (XM l D ad cid) M12_isLeft 1 eB [.ref (ad 12 0 0)] σ (some (F12_isLeft σ, σ)) := by
  refine AM.ofW (by decide +kernel) (Nat.le_of_ble_eq_true rfl) (ls := [(0, .ref (ad 12 0 0))]) rfl ?_
  refine aw_entryT ?_
  unfold F12_isLeft
  refine aw_aload_n 0 dX12_isLeft_0 rfl rfl ?_
  refine aw_bipush 108 dX12_isLeft_1 (by decide) ?_
  refine aw_bipush 101 dX12_isLeft_3 (by decide) ?_
  refine aw_bipush 102 dX12_isLeft_5 (by decide) ?_
  refine aw_bipush 116 dX12_isLeft_7 (by decide) ?_
  refine aw_iconst 0 dX12_isLeft_9 (by decide) ?_
  refine aw_iconst 0 dX12_isLeft_10 (by decide) ?_
  refine aw_callST_L (c12_spelled σ 108 101 102 116 0 0) (by decide) mk_12_spelled w_1731 w_1730 rfl rfl (Nat.le_of_ble_eq_true rfl) dX12_isLeft_11 ?_
  refine aw_callVT_B (c12_isWord σ (F12_spelled 108 101 102 116 0 0)) (io_12 (by decide)) ci_12 (by decide) mk_12_isWord w_1735 w_58 w_1733 rfl rfl (Nat.le_of_ble_eq_true rfl) dX12_isLeft_14 ?_
  exact aw_zreturn (b := (F12_isWord σ (F12_spelled 108 101 102 116 0 0))) rfl rfl dX12_isLeft_17
def F12_readWind_p16 (σ : Mem)  : Option (Unit × Mem) :=
  if (gI σ 12 0 0 12) ≤ 0 then (bnd (sB σ 12 0 0 26 true) fun s_1 => bd (F12_next s_1) fun _ s_2 => bd (F12_count s_2 0 9) fun v_3 s_4 => chk 3000 2403 <| bnd (sI s_4 12 0 5 (Int32.toNatClampNeg 2403) v_3) fun s_5 => if 0 < (gI s_5 12 0 0 12) then (some ((), s_5)) else (if (F12_isLeft s_5) = true then ((ald 3000 (gI s_5 12 0 5) 2403).bind fun v_6 => chk 3000 2403 <| bnd (sI s_5 12 0 5 (Int32.toNatClampNeg 2403) (-v_6)) fun s_7 => bd (F12_next s_7) fun _ s_8 => some ((), s_8)) else (some ((), s_5)))) else (some ((), σ))
set_option maxRecDepth 20000 in
theorem c12_readWind_p16 {l : Launch} {D : va_G} {ad : Nat → Nat → Nat → Nat} {cid : Nat → Nat → Nat → ClassId} (σ : Mem)  : AW (XM l D ad cid) M12_readWind 3 eU [(0, .ref (ad 12 0 0))] 16 [] σ ((F12_readWind_p16 σ).bind some) := by
  unfold F12_readWind_p16
  refine aw_aload_n 0 dX12_readWind_16 rfl rfl ?_
  refine aw_getf (fg_12_12 (by decide)) ci_12 (by decide) w_1470 dX12_readWind_17 ?_
  refine aw_if_le 24 dX12_readWind_20 (by decide) ?_ ?_
  · refine aw_aload_n 0 dX12_readWind_24 rfl rfl ?_
    refine aw_iconst 1 dX12_readWind_25 (by decide) ?_
    refine aw_putB (v := true) rfl (fs_12_26 (by decide)) ci_12 (by decide) rfl rfl w_1484 dX12_readWind_26 ?_
    refine aw_bndM (fun s_1 => ?_)
    refine aw_aload_n 0 dX12_readWind_29 rfl rfl ?_
    refine aw_callVW_U (c12_next s_1 ) (io_12 (by decide)) ci_12 (by decide) mk_12_next w_1708 w_54 w_1706 rfl rfl (Nat.le_of_ble_eq_true rfl) dX12_readWind_30 (fun _ s_2 => ?_)
    refine aw_aload_n 0 dX12_readWind_33 rfl rfl ?_
    refine aw_getf (fg_12_20 (by decide)) ci_12 (by decide) w_1478 dX12_readWind_34 ?_
    refine aw_sipush 2403 dX12_readWind_37 (by decide) ?_
    refine aw_aload_n 0 dX12_readWind_40 rfl rfl ?_
    refine aw_iconst 0 dX12_readWind_41 (by decide) ?_
    refine aw_bipush 9 dX12_readWind_42 (by decide) ?_
    refine aw_callVW_I (c12_count s_2 0 9) (io_12 (by decide)) ci_12 (by decide) mk_12_count w_1747 w_61 w_1745 rfl rfl (Nat.le_of_ble_eq_true rfl) dX12_readWind_44 (fun v_3 s_4 => ?_)
    refine aw_iastore (ar_12_5 (by decide)) dX12_readWind_47 ?_
    refine aw_bndM (fun s_5 => ?_)
    refine aw_aload_n 0 dX12_readWind_48 rfl rfl ?_
    refine aw_getf (fg_12_12 (by decide)) ci_12 (by decide) w_1470 dX12_readWind_49 ?_
    refine aw_if_gt 62 dX12_readWind_52 (by decide) ?_ ?_
    · exact aw_return rfl dX12_readWind_62
    · refine aw_aload_n 0 dX12_readWind_55 rfl rfl ?_
      refine aw_callVT_B (c12_isLeft s_5 ) (io_12 (by decide)) ci_12 (by decide) mk_12_isLeft w_1782 w_69 w_1780 rfl rfl (Nat.le_of_ble_eq_true rfl) dX12_readWind_56 ?_
      refine aw_bif_ne 63 dX12_readWind_59 (by decide) ?_ ?_
      · refine aw_aload_n 0 dX12_readWind_63 rfl rfl ?_
        refine aw_getf (fg_12_20 (by decide)) ci_12 (by decide) w_1478 dX12_readWind_64 ?_
        refine aw_sipush 2403 dX12_readWind_67 (by decide) ?_
        refine aw_aload_n 0 dX12_readWind_70 rfl rfl ?_
        refine aw_getf (fg_12_20 (by decide)) ci_12 (by decide) w_1478 dX12_readWind_71 ?_
        refine aw_sipush 2403 dX12_readWind_74 (by decide) ?_
        refine aw_iaload (ar_12_5 (by decide)) dX12_readWind_77 (fun v_6 => ?_)
        refine aw_ineg dX12_readWind_78 ?_
        refine aw_iastore (ar_12_5 (by decide)) dX12_readWind_79 ?_
        refine aw_bndM (fun s_7 => ?_)
        refine aw_aload_n 0 dX12_readWind_80 rfl rfl ?_
        refine aw_callVW_U (c12_next s_7 ) (io_12 (by decide)) ci_12 (by decide) mk_12_next w_1708 w_54 w_1706 rfl rfl (Nat.le_of_ble_eq_true rfl) dX12_readWind_81 (fun _ s_8 => ?_)
        exact aw_return rfl dX12_readWind_84
      · exact aw_return rfl dX12_readWind_62
  · exact aw_return rfl dX12_readWind_23
def F12_readWind (σ : Mem)  : Option (Unit × Mem) :=
  if (gB σ 12 0 0 26) = true then (bd (F12_fail σ 5 (gI σ 12 0 0 15)) fun _ s_9 => F12_readWind_p16 s_9) else (F12_readWind_p16 σ)
set_option maxRecDepth 20000 in
theorem c12_readWind {l : Launch} {D : va_G} {ad : Nat → Nat → Nat → Nat} {cid : Nat → Nat → Nat → ClassId} (σ : Mem)  : AMF (XM l D ad cid) M12_readWind 3 eU [.ref (ad 12 0 0)] σ (F12_readWind σ) := by
  refine AM.ofW (by decide +kernel) (Nat.le_of_ble_eq_true rfl) (ls := [(0, .ref (ad 12 0 0))]) rfl ?_
  refine aw_entry ?_
  unfold F12_readWind
  refine aw_aload_n 0 dX12_readWind_0 rfl rfl ?_
  refine aw_getf (fg_12_26 (by decide)) ci_12 (by decide) w_1484 dX12_readWind_1 ?_
  refine aw_bif_eq 16 dX12_readWind_4 (by decide) ?_ ?_
  · exact c12_readWind_p16 σ 
  · refine aw_aload_n 0 dX12_readWind_7 rfl rfl ?_
    refine aw_iconst 5 dX12_readWind_8 (by decide) ?_
    refine aw_aload_n 0 dX12_readWind_9 rfl rfl ?_
    refine aw_getf (fg_12_15 (by decide)) ci_12 (by decide) w_1473 dX12_readWind_10 ?_
    refine aw_callVW_U (c12_fail σ 5 (gI σ 12 0 0 15)) (io_12 (by decide)) ci_12 (by decide) mk_12_fail w_1743 w_60 w_1741 rfl rfl (Nat.le_of_ble_eq_true rfl) dX12_readWind_13 (fun _ s_9 => ?_)
    exact c12_readWind_p16 s_9 
def F12_isRing (σ : Mem)  : Bool :=
  (F12_isWord σ (F12_spelled 114 105 110 103 0 0))
set_option maxRecDepth 20000 in
theorem c12_isRing {l : Launch} {D : va_G} {ad : Nat → Nat → Nat → Nat} {cid : Nat → Nat → Nat → ClassId} (σ : Mem)  : AMF (XM l D ad cid) M12_isRing 1 eB [.ref (ad 12 0 0)] σ (some (F12_isRing σ, σ)) := by
  refine AM.ofW (by decide +kernel) (Nat.le_of_ble_eq_true rfl) (ls := [(0, .ref (ad 12 0 0))]) rfl ?_
  refine aw_entryT ?_
  unfold F12_isRing
  refine aw_aload_n 0 dX12_isRing_0 rfl rfl ?_
  refine aw_bipush 114 dX12_isRing_1 (by decide) ?_
  refine aw_bipush 105 dX12_isRing_3 (by decide) ?_
  refine aw_bipush 110 dX12_isRing_5 (by decide) ?_
  refine aw_bipush 103 dX12_isRing_7 (by decide) ?_
  refine aw_iconst 0 dX12_isRing_9 (by decide) ?_
  refine aw_iconst 0 dX12_isRing_10 (by decide) ?_
  refine aw_callST_L (c12_spelled σ 114 105 110 103 0 0) (by decide) mk_12_spelled w_1731 w_1730 rfl rfl (Nat.le_of_ble_eq_true rfl) dX12_isRing_11 ?_
  refine aw_callVT_B (c12_isWord σ (F12_spelled 114 105 110 103 0 0)) (io_12 (by decide)) ci_12 (by decide) mk_12_isWord w_1735 w_58 w_1733 rfl rfl (Nat.le_of_ble_eq_true rfl) dX12_isRing_14 ?_
  exact aw_zreturn (b := (F12_isWord σ (F12_spelled 114 105 110 103 0 0))) rfl rfl dX12_isRing_17
def F12_isWorth (σ : Mem)  : Bool :=
  (F12_isWord σ (F12_spelled 119 111 114 116 104 0))
set_option maxRecDepth 20000 in
theorem c12_isWorth {l : Launch} {D : va_G} {ad : Nat → Nat → Nat → Nat} {cid : Nat → Nat → Nat → ClassId} (σ : Mem)  : AMF (XM l D ad cid) M12_isWorth 1 eB [.ref (ad 12 0 0)] σ (some (F12_isWorth σ, σ)) := by
  refine AM.ofW (by decide +kernel) (Nat.le_of_ble_eq_true rfl) (ls := [(0, .ref (ad 12 0 0))]) rfl ?_
  refine aw_entryT ?_
  unfold F12_isWorth
  refine aw_aload_n 0 dX12_isWorth_0 rfl rfl ?_
  refine aw_bipush 119 dX12_isWorth_1 (by decide) ?_
  refine aw_bipush 111 dX12_isWorth_3 (by decide) ?_
  refine aw_bipush 114 dX12_isWorth_5 (by decide) ?_
  refine aw_bipush 116 dX12_isWorth_7 (by decide) ?_
  refine aw_bipush 104 dX12_isWorth_9 (by decide) ?_
  refine aw_iconst 0 dX12_isWorth_11 (by decide) ?_
  refine aw_callST_L (c12_spelled σ 119 111 114 116 104 0) (by decide) mk_12_spelled w_1731 w_1730 rfl rfl (Nat.le_of_ble_eq_true rfl) dX12_isWorth_12 ?_
  refine aw_callVT_B (c12_isWord σ (F12_spelled 119 111 114 116 104 0)) (io_12 (by decide)) ci_12 (by decide) mk_12_isWord w_1735 w_58 w_1733 rfl rfl (Nat.le_of_ble_eq_true rfl) dX12_isWorth_15 ?_
  exact aw_zreturn (b := (F12_isWord σ (F12_spelled 119 111 114 116 104 0))) rfl rfl dX12_isWorth_18
def F12_readRing_p97 (σ : Mem) (x1 : Int32) (x2 : Int32) (q1 : Int32) : Option (Unit × Mem) :=
  bd (F12_count σ q1 20) fun v_8 s_9 => if (gI s_9 12 0 0 12) ≤ 0 then (chk 3000 (2409 + x1) <| bnd (sI s_9 12 0 5 (Int32.toNatClampNeg (2409 + x1)) x2) fun s_10 => chk 3000 (2415 + x1) <| bnd (sI s_10 12 0 5 (Int32.toNatClampNeg (2415 + x1)) v_8) fun s_11 => (ald 3000 (gI s_11 12 0 5) 2404).bind fun v_12 => chk 3000 2404 <| bnd (sI s_11 12 0 5 (Int32.toNatClampNeg 2404) (v_12 + 1)) fun s_13 => some ((), s_13)) else (some ((), s_9))
set_option maxRecDepth 20000 in
theorem c12_readRing_p97 {l : Launch} {D : va_G} {ad : Nat → Nat → Nat → Nat} {cid : Nat → Nat → Nat → ClassId} (σ : Mem) (x1 : Int32) (x2 : Int32) (q1 : Int32) : AW (XM l D ad cid) M12_readRing 3 eU [(0, .ref (ad 12 0 0)), (1, .int x1), (2, .int x2)] 97 [.int q1, .ref (ad 12 0 0)] σ ((F12_readRing_p97 σ x1 x2 q1).bind some) := by
  unfold F12_readRing_p97
  refine aw_bipush 20 dX12_readRing_97 (by decide) ?_
  refine aw_callVW_I (c12_count σ q1 20) (io_12 (by decide)) ci_12 (by decide) mk_12_count w_1747 w_61 w_1745 rfl rfl (Nat.le_of_ble_eq_true rfl) dX12_readRing_99 (fun v_8 s_9 => ?_)
  refine aw_istore_n (ls' := [(0, .ref (ad 12 0 0)), (1, .int x1), (2, .int x2), (3, .int v_8)]) [1, 2, 3, 0] dX12_readRing_102 rfl (by decide) rfl ?_
  refine aw_aload_n 0 dX12_readRing_103 rfl rfl ?_
  refine aw_getf (fg_12_12 (by decide)) ci_12 (by decide) w_1470 dX12_readRing_104 ?_
  refine aw_if_le 111 dX12_readRing_107 (by decide) ?_ ?_
  · refine aw_aload_n 0 dX12_readRing_111 rfl rfl ?_
    refine aw_getf (fg_12_20 (by decide)) ci_12 (by decide) w_1478 dX12_readRing_112 ?_
    refine aw_sipush 2409 dX12_readRing_115 (by decide) ?_
    refine aw_iload_n 1 dX12_readRing_118 rfl rfl ?_
    refine aw_iadd dX12_readRing_119 ?_
    refine aw_iload_n 2 dX12_readRing_120 rfl rfl ?_
    refine aw_iastore (ar_12_5 (by decide)) dX12_readRing_121 ?_
    refine aw_bndM (fun s_10 => ?_)
    refine aw_aload_n 0 dX12_readRing_122 rfl rfl ?_
    refine aw_getf (fg_12_20 (by decide)) ci_12 (by decide) w_1478 dX12_readRing_123 ?_
    refine aw_sipush 2415 dX12_readRing_126 (by decide) ?_
    refine aw_iload_n 1 dX12_readRing_129 rfl rfl ?_
    refine aw_iadd dX12_readRing_130 ?_
    refine aw_iload_n 3 dX12_readRing_131 rfl rfl ?_
    refine aw_iastore (ar_12_5 (by decide)) dX12_readRing_132 ?_
    refine aw_bndM (fun s_11 => ?_)
    refine aw_aload_n 0 dX12_readRing_133 rfl rfl ?_
    refine aw_getf (fg_12_20 (by decide)) ci_12 (by decide) w_1478 dX12_readRing_134 ?_
    refine aw_sipush 2404 dX12_readRing_137 (by decide) ?_
    refine aw_dup2_11 dX12_readRing_140 rfl rfl ?_
    refine aw_iaload (ar_12_5 (by decide)) dX12_readRing_141 (fun v_12 => ?_)
    refine aw_iconst 1 dX12_readRing_142 (by decide) ?_
    refine aw_iadd dX12_readRing_143 ?_
    refine aw_iastore (ar_12_5 (by decide)) dX12_readRing_144 ?_
    refine aw_bndM (fun s_13 => ?_)
    exact aw_return rfl dX12_readRing_145
  · exact aw_return rfl dX12_readRing_110
def F12_readRing_p62 (σ : Mem) (x1 : Int32) (q1 : Bool) (q2 : Int32) : Option (Unit × Mem) :=
  bd (F12_count σ (b2i q1) q2) fun v_4 s_5 => bd (F12_must s_5 (F12_isWorth s_5)) fun _ s_6 => if x1 = 0 then (F12_readRing_p97 s_6 x1 v_4 1) else ((ald 3000 (gI s_6 12 0 5) ((2415 + x1) - 1)).bind fun v_7 => F12_readRing_p97 s_6 x1 v_4 (v_7 + 1))
set_option maxRecDepth 20000 in
theorem c12_readRing_p62 {l : Launch} {D : va_G} {ad : Nat → Nat → Nat → Nat} {cid : Nat → Nat → Nat → ClassId} (σ : Mem) (x1 : Int32) (q1 : Bool) (q2 : Int32) : AW (XM l D ad cid) M12_readRing 3 eU [(0, .ref (ad 12 0 0)), (1, .int x1)] 62 [.int q2, .int (b2i q1), .ref (ad 12 0 0)] σ ((F12_readRing_p62 σ x1 q1 q2).bind some) := by
  unfold F12_readRing_p62
  refine aw_callVW_I (c12_count σ (b2i q1) q2) (io_12 (by decide)) ci_12 (by decide) mk_12_count w_1747 w_61 w_1745 rfl rfl (Nat.le_of_ble_eq_true rfl) dX12_readRing_62 (fun v_4 s_5 => ?_)
  refine aw_istore_n (ls' := [(0, .ref (ad 12 0 0)), (1, .int x1), (2, .int v_4)]) [1, 2, 0] dX12_readRing_65 rfl (by decide) rfl ?_
  refine aw_aload_n 0 dX12_readRing_66 rfl rfl ?_
  refine aw_aload_n 0 dX12_readRing_67 rfl rfl ?_
  refine aw_callVT_B (c12_isWorth s_5 ) (io_12 (by decide)) ci_12 (by decide) mk_12_isWorth w_1794 w_72 w_1792 rfl rfl (Nat.le_of_ble_eq_true rfl) dX12_readRing_68 ?_
  refine aw_callVW_U (c12_must s_5 (F12_isWorth s_5)) (io_12 (by decide)) ci_12 (by decide) mk_12_must w_1762 w_64 w_1760 rfl rfl (Nat.le_of_ble_eq_true rfl) dX12_readRing_71 (fun _ s_6 => ?_)
  refine aw_aload_n 0 dX12_readRing_74 rfl rfl ?_
  refine aw_iload_n 1 dX12_readRing_75 rfl rfl ?_
  refine aw_if_ne 83 dX12_readRing_76 (by decide) ?_ ?_
  · refine aw_aload_n 0 dX12_readRing_83 rfl rfl ?_
    refine aw_getf (fg_12_20 (by decide)) ci_12 (by decide) w_1478 dX12_readRing_84 ?_
    refine aw_sipush 2415 dX12_readRing_87 (by decide) ?_
    refine aw_iload_n 1 dX12_readRing_90 rfl rfl ?_
    refine aw_iadd dX12_readRing_91 ?_
    refine aw_iconst 1 dX12_readRing_92 (by decide) ?_
    refine aw_isub dX12_readRing_93 ?_
    refine aw_iaload (ar_12_5 (by decide)) dX12_readRing_94 (fun v_7 => ?_)
    refine aw_iconst 1 dX12_readRing_95 (by decide) ?_
    refine aw_iadd dX12_readRing_96 ?_
    exact c12_readRing_p97 s_6 x1 v_4 (v_7 + 1)
  · refine aw_iconst 1 dX12_readRing_79 (by decide) ?_
    refine aw_goto 97 dX12_readRing_80 (by decide) ?_
    exact c12_readRing_p97 s_6 x1 v_4 1
def F12_readRing_p25 (σ : Mem) (x1 : Int32) : Option (Unit × Mem) :=
  if (gI σ 12 0 0 12) ≤ 0 then (bd (F12_next σ) fun _ s_2 => if x1 = 0 then (F12_readRing_p62 s_2 x1 true 60) else ((ald 3000 (gI s_2 12 0 5) ((2409 + x1) - 1)).bind fun v_3 => F12_readRing_p62 s_2 x1 true (v_3 - 1))) else (some ((), σ))
set_option maxRecDepth 20000 in
theorem c12_readRing_p25 {l : Launch} {D : va_G} {ad : Nat → Nat → Nat → Nat} {cid : Nat → Nat → Nat → ClassId} (σ : Mem) (x1 : Int32) : AW (XM l D ad cid) M12_readRing 3 eU [(0, .ref (ad 12 0 0)), (1, .int x1)] 25 [] σ ((F12_readRing_p25 σ x1).bind some) := by
  unfold F12_readRing_p25
  refine aw_aload_n 0 dX12_readRing_25 rfl rfl ?_
  refine aw_getf (fg_12_12 (by decide)) ci_12 (by decide) w_1470 dX12_readRing_26 ?_
  refine aw_if_le 33 dX12_readRing_29 (by decide) ?_ ?_
  · refine aw_aload_n 0 dX12_readRing_33 rfl rfl ?_
    refine aw_callVW_U (c12_next σ ) (io_12 (by decide)) ci_12 (by decide) mk_12_next w_1708 w_54 w_1706 rfl rfl (Nat.le_of_ble_eq_true rfl) dX12_readRing_34 (fun _ s_2 => ?_)
    refine aw_aload_n 0 dX12_readRing_37 rfl rfl ?_
    refine aw_iconst 1 dX12_readRing_38 (by decide) ?_
    refine aw_iload_n 1 dX12_readRing_39 rfl rfl ?_
    refine aw_if_ne 48 dX12_readRing_40 (by decide) ?_ ?_
    · refine aw_aload_n 0 dX12_readRing_48 rfl rfl ?_
      refine aw_getf (fg_12_20 (by decide)) ci_12 (by decide) w_1478 dX12_readRing_49 ?_
      refine aw_sipush 2409 dX12_readRing_52 (by decide) ?_
      refine aw_iload_n 1 dX12_readRing_55 rfl rfl ?_
      refine aw_iadd dX12_readRing_56 ?_
      refine aw_iconst 1 dX12_readRing_57 (by decide) ?_
      refine aw_isub dX12_readRing_58 ?_
      refine aw_iaload (ar_12_5 (by decide)) dX12_readRing_59 (fun v_3 => ?_)
      refine aw_iconst 1 dX12_readRing_60 (by decide) ?_
      refine aw_isub dX12_readRing_61 ?_
      exact c12_readRing_p62 s_2 x1 true (v_3 - 1)
    · refine aw_bipush 60 dX12_readRing_43 (by decide) ?_
      refine aw_goto 62 dX12_readRing_45 (by decide) ?_
      exact c12_readRing_p62 s_2 x1 true 60
  · exact aw_return rfl dX12_readRing_32
def F12_readRing (σ : Mem)  : Option (Unit × Mem) :=
  (ald 3000 (gI σ 12 0 5) 2404).bind fun v_1 => if v_1 = 6 then (bd (F12_fail σ 6 (gI σ 12 0 0 15)) fun _ s_14 => F12_readRing_p25 s_14 v_1) else (F12_readRing_p25 σ v_1)
set_option maxRecDepth 20000 in
theorem c12_readRing {l : Launch} {D : va_G} {ad : Nat → Nat → Nat → Nat} {cid : Nat → Nat → Nat → ClassId} (σ : Mem)  : AMF (XM l D ad cid) M12_readRing 3 eU [.ref (ad 12 0 0)] σ (F12_readRing σ) := by
  refine AM.ofW (by decide +kernel) (Nat.le_of_ble_eq_true rfl) (ls := [(0, .ref (ad 12 0 0))]) rfl ?_
  refine aw_entry ?_
  unfold F12_readRing
  refine aw_aload_n 0 dX12_readRing_0 rfl rfl ?_
  refine aw_getf (fg_12_20 (by decide)) ci_12 (by decide) w_1478 dX12_readRing_1 ?_
  refine aw_sipush 2404 dX12_readRing_4 (by decide) ?_
  refine aw_iaload (ar_12_5 (by decide)) dX12_readRing_7 (fun v_1 => ?_)
  refine aw_istore_n (ls' := [(0, .ref (ad 12 0 0)), (1, .int v_1)]) [1, 0] dX12_readRing_8 rfl (by decide) rfl ?_
  refine aw_iload_n 1 dX12_readRing_9 rfl rfl ?_
  refine aw_bipush 6 dX12_readRing_10 (by decide) ?_
  refine aw_icmp_ne 25 dX12_readRing_12 (by decide) ?_ ?_
  · exact c12_readRing_p25 σ v_1
  · refine aw_aload_n 0 dX12_readRing_15 rfl rfl ?_
    refine aw_bipush 6 dX12_readRing_16 (by decide) ?_
    refine aw_aload_n 0 dX12_readRing_18 rfl rfl ?_
    refine aw_getf (fg_12_15 (by decide)) ci_12 (by decide) w_1473 dX12_readRing_19 ?_
    refine aw_callVW_U (c12_fail σ 6 (gI σ 12 0 0 15)) (io_12 (by decide)) ci_12 (by decide) mk_12_fail w_1743 w_60 w_1741 rfl rfl (Nat.le_of_ble_eq_true rfl) dX12_readRing_22 (fun _ s_14 => ?_)
    exact c12_readRing_p25 s_14 v_1
