def F12_becomes (σ : Mem) (x1 : Int32) (x2 : Int32) (x3 : Int32) : Option (Int32 × Mem) :=
  bnd (sI σ 12 0 0 1 0) fun s_1 => bnd (sI s_1 12 0 0 0 0) fun s_2 => (F12_isPeaAt s_2 x1).bind fun v_3 => if v_3 = true then (if (F12_isPuffing x2 40) = true then (if (F12_isSpit x3) = true then ((F12_fateOf s_2 x1 x2 x3).bind fun v_8 => some (v_8, s_2)) else (bd (F12_refuse s_2 5) fun v_6 s_7 => some (v_6, s_7))) else (bd (F12_refuse s_2 5) fun v_4 s_5 => some (v_4, s_5))) else (bd (F12_refuse s_2 2) fun v_9 s_10 => some (v_9, s_10))
set_option maxRecDepth 20000 in
theorem c12_becomes {l : Launch} {D : va_G} {ad : Nat → Nat → Nat → Nat} {cid : Nat → Nat → Nat → ClassId} (σ : Mem) (x1 : Int32) (x2 : Int32) (x3 : Int32) : AMF (XM l D ad cid) M12_becomes 3 eI [.ref (ad 12 0 0), .int x1, .int x2, .int x3] σ (F12_becomes σ x1 x2 x3) := by
  refine AM.ofW (by decide +kernel) (Nat.le_of_ble_eq_true rfl) (ls := [(0, .ref (ad 12 0 0)), (1, .int x1), (2, .int x2), (3, .int x3)]) rfl ?_
  refine aw_entry ?_
  unfold F12_becomes
  refine aw_aload_n 0 dX12_becomes_0 rfl rfl ?_
  refine aw_iconst 0 dX12_becomes_1 (by decide) ?_
  refine aw_putI (fs_12_1 (by decide)) ci_12 (by decide) rfl rfl w_1457 dX12_becomes_2 ?_
  refine aw_bndM (fun s_1 => ?_)
  refine aw_aload_n 0 dX12_becomes_5 rfl rfl ?_
  refine aw_iconst 0 dX12_becomes_6 (by decide) ?_
  refine aw_putI (fs_12_0 (by decide)) ci_12 (by decide) rfl rfl w_1456 dX12_becomes_7 ?_
  refine aw_bndM (fun s_2 => ?_)
  refine aw_aload_n 0 dX12_becomes_10 rfl rfl ?_
  refine aw_iload_n 1 dX12_becomes_11 rfl rfl ?_
  refine aw_callVO_B (c12_isPeaAt s_2 x1) (io_12 (by decide)) ci_12 (by decide) mk_12_isPeaAt w_1931 w_102 w_1929 rfl rfl (Nat.le_of_ble_eq_true rfl) dX12_becomes_12 (fun v_3 => ?_)
  refine aw_bif_ne 24 dX12_becomes_15 (by decide) ?_ ?_
  · refine aw_iload_n 2 dX12_becomes_24 rfl rfl ?_
    refine aw_bipush 40 dX12_becomes_25 (by decide) ?_
    refine aw_callST_B (c12_isPuffing s_2 x2 40) (by decide) mk_12_isPuffing w_1961 w_1960 rfl rfl (Nat.le_of_ble_eq_true rfl) dX12_becomes_27 ?_
    refine aw_bif_eq 50 dX12_becomes_30 (by decide) ?_ ?_
    · refine aw_aload_n 0 dX12_becomes_50 rfl rfl ?_
      refine aw_iconst 5 dX12_becomes_51 (by decide) ?_
      refine aw_callVW_I (c12_refuse s_2 5) (io_12 (by decide)) ci_12 (by decide) mk_12_refuse w_1919 w_101 w_1917 rfl rfl (Nat.le_of_ble_eq_true rfl) dX12_becomes_52 (fun v_4 s_5 => ?_)
      exact aw_ireturn rfl dX12_becomes_55
    · refine aw_iload_n 3 dX12_becomes_33 rfl rfl ?_
      refine aw_callST_B (c12_isSpit s_2 x3) (by decide) mk_12_isSpit w_1964 w_1963 rfl rfl (Nat.le_of_ble_eq_true rfl) dX12_becomes_34 ?_
      refine aw_bif_eq 50 dX12_becomes_37 (by decide) ?_ ?_
      · refine aw_aload_n 0 dX12_becomes_50 rfl rfl ?_
        refine aw_iconst 5 dX12_becomes_51 (by decide) ?_
        refine aw_callVW_I (c12_refuse s_2 5) (io_12 (by decide)) ci_12 (by decide) mk_12_refuse w_1919 w_101 w_1917 rfl rfl (Nat.le_of_ble_eq_true rfl) dX12_becomes_52 (fun v_6 s_7 => ?_)
        exact aw_ireturn rfl dX12_becomes_55
      · refine aw_aload_n 0 dX12_becomes_40 rfl rfl ?_
        refine aw_iload_n 1 dX12_becomes_41 rfl rfl ?_
        refine aw_iload_n 2 dX12_becomes_42 rfl rfl ?_
        refine aw_iload_n 3 dX12_becomes_43 rfl rfl ?_
        refine aw_callVO_I (c12_fateOf s_2 x1 x2 x3) (io_12 (by decide)) ci_12 (by decide) mk_12_fateOf w_1969 w_107 w_1967 rfl rfl (Nat.le_of_ble_eq_true rfl) dX12_becomes_44 (fun v_8 => ?_)
        refine aw_goto 55 dX12_becomes_47 (by decide) ?_
        exact aw_ireturn rfl dX12_becomes_55
  · refine aw_aload_n 0 dX12_becomes_18 rfl rfl ?_
    refine aw_iconst 2 dX12_becomes_19 (by decide) ?_
    refine aw_callVW_I (c12_refuse s_2 2) (io_12 (by decide)) ci_12 (by decide) mk_12_refuse w_1919 w_101 w_1917 rfl rfl (Nat.le_of_ble_eq_true rfl) dX12_becomes_20 (fun v_9 s_10 => ?_)
    exact aw_ireturn rfl dX12_becomes_23
def F12_isAim (x0 : Int32) (x1 : Int32) : Bool :=
  if (F12_isIn (Int32.toInt64 x0) (-60) 60) = true then (if (F12_isIn (Int32.toInt64 x1) (-60) 60) = true then (true) else (false)) else (false)
set_option maxRecDepth 20000 in
theorem c12_isAim {l : Launch} {D : va_G} {ad : Nat → Nat → Nat → Nat} {cid : Nat → Nat → Nat → ClassId} (σ : Mem) (x0 : Int32) (x1 : Int32) : AMF (XM l D ad cid) M12_isAim 1 eB [.int x0, .int x1] σ (some (F12_isAim x0 x1, σ)) := by
  refine AM.ofW (by decide +kernel) (Nat.le_of_ble_eq_true rfl) (ls := [(0, .int x0), (1, .int x1)]) rfl ?_
  refine aw_entryT ?_
  unfold F12_isAim
  refine aw_iload_n 0 dX12_isAim_0 rfl rfl ?_
  refine aw_i2l dX12_isAim_1 ?_
  refine aw_ldc2 w_1996 dX12_isAim_2 ?_
  refine aw_ldc2 w_1997 dX12_isAim_5 ?_
  refine aw_callST_B (c12_isIn σ (Int32.toInt64 x0) (-60) 60) (by decide) mk_12_isIn w_1752 w_1751 rfl rfl (Nat.le_of_ble_eq_true rfl) dX12_isAim_8 ?_
  refine aw_iteT ?_
  refine aw_bif_eq 32 dX12_isAim_11 (by decide) ?_ ?_
  · refine aw_iconst 0 dX12_isAim_32 (by decide) ?_
    exact aw_zreturn (b := false) rfl rfl dX12_isAim_33
  · refine aw_iload_n 1 dX12_isAim_14 rfl rfl ?_
    refine aw_i2l dX12_isAim_15 ?_
    refine aw_ldc2 w_1996 dX12_isAim_16 ?_
    refine aw_ldc2 w_1997 dX12_isAim_19 ?_
    refine aw_callST_B (c12_isIn σ (Int32.toInt64 x1) (-60) 60) (by decide) mk_12_isIn w_1752 w_1751 rfl rfl (Nat.le_of_ble_eq_true rfl) dX12_isAim_22 ?_
    refine aw_iteT ?_
    refine aw_bif_eq 32 dX12_isAim_25 (by decide) ?_ ?_
    · refine aw_iconst 0 dX12_isAim_32 (by decide) ?_
      exact aw_zreturn (b := false) rfl rfl dX12_isAim_33
    · refine aw_iconst 1 dX12_isAim_28 (by decide) ?_
      refine aw_goto 33 dX12_isAim_29 (by decide) ?_
      exact aw_zreturn (b := true) rfl rfl dX12_isAim_33
def F12_strikeX (σ : Mem) (x1 : Int32) (x2 : Int32) (x3 : Int32) (x4 : Int32) : Option Int32 :=
  (ald 3000 (gI σ 12 0 5) (65 + x1)).bind fun v_1 => some ((((x2 + v_1) + (gI σ 12 0 0 30)) + x4) + (x3 * (gI σ 12 0 0 31)))
set_option maxRecDepth 20000 in
theorem c12_strikeX {l : Launch} {D : va_G} {ad : Nat → Nat → Nat → Nat} {cid : Nat → Nat → Nat → ClassId} (σ : Mem) (x1 : Int32) (x2 : Int32) (x3 : Int32) (x4 : Int32) : AMF (XM l D ad cid) M12_strikeX 0 eI [.ref (ad 12 0 0), .int x1, .int x2, .int x3, .int x4] σ (oM σ (F12_strikeX σ x1 x2 x3 x4)) := by
  refine AM.ofW (by decide +kernel) (Nat.le_of_ble_eq_true rfl) (ls := [(0, .ref (ad 12 0 0)), (1, .int x1), (2, .int x2), (3, .int x3), (4, .int x4)]) rfl ?_
  refine aw_entryO ?_
  unfold F12_strikeX
  refine aw_iload_n 2 dX12_strikeX_0 rfl rfl ?_
  refine aw_aload_n 0 dX12_strikeX_1 rfl rfl ?_
  refine aw_getf (fg_12_20 (by decide)) ci_12 (by decide) w_1476 dX12_strikeX_2 ?_
  refine aw_bipush 65 dX12_strikeX_5 (by decide) ?_
  refine aw_iload_n 1 dX12_strikeX_7 rfl rfl ?_
  refine aw_iadd dX12_strikeX_8 ?_
  refine aw_iaload (ar_12_5 (by decide)) dX12_strikeX_9 (fun v_1 => ?_)
  refine aw_iadd dX12_strikeX_10 ?_
  refine aw_aload_n 0 dX12_strikeX_11 rfl rfl ?_
  refine aw_getf (fg_12_30 (by decide)) ci_12 (by decide) w_1486 dX12_strikeX_12 ?_
  refine aw_iadd dX12_strikeX_15 ?_
  refine aw_iload 4 dX12_strikeX_16 rfl ?_
  refine aw_iadd dX12_strikeX_18 ?_
  refine aw_iload_n 3 dX12_strikeX_19 rfl rfl ?_
  refine aw_aload_n 0 dX12_strikeX_20 rfl rfl ?_
  refine aw_getf (fg_12_31 (by decide)) ci_12 (by decide) w_1487 dX12_strikeX_21 ?_
  refine aw_imul dX12_strikeX_24 ?_
  refine aw_iadd dX12_strikeX_25 ?_
  exact aw_ireturn rfl dX12_strikeX_26
def F12_strikeY (σ : Mem) (x1 : Int32) (x2 : Int32) (x3 : Int32) : Option Int32 :=
  (ald 3000 (gI σ 12 0 5) (71 + x1)).bind fun v_1 => some (((x2 + v_1) + x3) - (gI σ 12 0 0 29))
set_option maxRecDepth 20000 in
theorem c12_strikeY {l : Launch} {D : va_G} {ad : Nat → Nat → Nat → Nat} {cid : Nat → Nat → Nat → ClassId} (σ : Mem) (x1 : Int32) (x2 : Int32) (x3 : Int32) : AMF (XM l D ad cid) M12_strikeY 0 eI [.ref (ad 12 0 0), .int x1, .int x2, .int x3] σ (oM σ (F12_strikeY σ x1 x2 x3)) := by
  refine AM.ofW (by decide +kernel) (Nat.le_of_ble_eq_true rfl) (ls := [(0, .ref (ad 12 0 0)), (1, .int x1), (2, .int x2), (3, .int x3)]) rfl ?_
  refine aw_entryO ?_
  unfold F12_strikeY
  refine aw_iload_n 2 dX12_strikeY_0 rfl rfl ?_
  refine aw_aload_n 0 dX12_strikeY_1 rfl rfl ?_
  refine aw_getf (fg_12_20 (by decide)) ci_12 (by decide) w_1476 dX12_strikeY_2 ?_
  refine aw_bipush 71 dX12_strikeY_5 (by decide) ?_
  refine aw_iload_n 1 dX12_strikeY_7 rfl rfl ?_
  refine aw_iadd dX12_strikeY_8 ?_
  refine aw_iaload (ar_12_5 (by decide)) dX12_strikeY_9 (fun v_1 => ?_)
  refine aw_iadd dX12_strikeY_10 ?_
  refine aw_iload_n 3 dX12_strikeY_11 rfl rfl ?_
  refine aw_iadd dX12_strikeY_12 ?_
  refine aw_aload_n 0 dX12_strikeY_13 rfl rfl ?_
  refine aw_getf (fg_12_29 (by decide)) ci_12 (by decide) w_1485 dX12_strikeY_14 ?_
  refine aw_isub dX12_strikeY_17 ?_
  exact aw_ireturn rfl dX12_strikeY_18
def F12_strikes (σ : Mem) (x1 : Int32) (x2 : Int32) (x3 : Int32) (x4 : Int32) (x5 : Int32) (x6 : Int32) (x7 : Int32) : Option (Int32 × Mem) :=
  bnd (sI σ 12 0 0 1 0) fun s_1 => bnd (sI s_1 12 0 0 0 0) fun s_2 => (F12_isPeaAt s_2 x2).bind fun v_3 => if v_3 = true then ((F12_isShooterAt s_2 x1).bind fun v_6 => if v_6 = true then ((ald 3000 (gI s_2 12 0 5) (53 + x1)).bind fun v_7 => if (F12_isPuffing x3 v_7) = true then (if (F12_isAim x4 x5) = true then (if (F12_isIn (Int32.toInt64 x6) (-1) 1) = true then (if (F12_isIn (Int32.toInt64 x7) 0 1) = true then ((ald 3000 (gI s_2 12 0 5) 7).bind fun v_14 => bd (F12_flies s_2 x2 x3 v_14) fun v_15 s_16 => if v_15 = true then (if x7 = 0 then ((F12_strikeX s_16 x1 x4 x6 0).bind fun v_18 => some (v_18, s_16)) else ((F12_strikeY s_16 x1 x5 0).bind fun v_17 => some (v_17, s_16))) else (bd (F12_refuse s_16 9) fun v_19 s_20 => some (v_19, s_20))) else (bd (F12_refuse s_2 5) fun v_21 s_22 => some (v_21, s_22))) else (bd (F12_refuse s_2 5) fun v_12 s_13 => some (v_12, s_13))) else (bd (F12_refuse s_2 5) fun v_10 s_11 => some (v_10, s_11))) else (bd (F12_refuse s_2 5) fun v_8 s_9 => some (v_8, s_9))) else (bd (F12_refuse s_2 2) fun v_23 s_24 => some (v_23, s_24))) else (bd (F12_refuse s_2 2) fun v_4 s_5 => some (v_4, s_5))
set_option maxRecDepth 20000 in
theorem c12_strikes {l : Launch} {D : va_G} {ad : Nat → Nat → Nat → Nat} {cid : Nat → Nat → Nat → ClassId} (σ : Mem) (x1 : Int32) (x2 : Int32) (x3 : Int32) (x4 : Int32) (x5 : Int32) (x6 : Int32) (x7 : Int32) : AMF (XM l D ad cid) M12_strikes 4 eI [.ref (ad 12 0 0), .int x1, .int x2, .int x3, .int x4, .int x5, .int x6, .int x7] σ (F12_strikes σ x1 x2 x3 x4 x5 x6 x7) := by
  refine AM.ofW (by decide +kernel) (Nat.le_of_ble_eq_true rfl) (ls := [(0, .ref (ad 12 0 0)), (1, .int x1), (2, .int x2), (3, .int x3), (4, .int x4), (5, .int x5), (6, .int x6), (7, .int x7)]) rfl ?_
  refine aw_entry ?_
  unfold F12_strikes
  refine aw_aload_n 0 dX12_strikes_0 rfl rfl ?_
  refine aw_iconst 0 dX12_strikes_1 (by decide) ?_
  refine aw_putI (fs_12_1 (by decide)) ci_12 (by decide) rfl rfl w_1457 dX12_strikes_2 ?_
  refine aw_bndM (fun s_1 => ?_)
  refine aw_aload_n 0 dX12_strikes_5 rfl rfl ?_
  refine aw_iconst 0 dX12_strikes_6 (by decide) ?_
  refine aw_putI (fs_12_0 (by decide)) ci_12 (by decide) rfl rfl w_1456 dX12_strikes_7 ?_
  refine aw_bndM (fun s_2 => ?_)
  refine aw_aload_n 0 dX12_strikes_10 rfl rfl ?_
  refine aw_iload_n 2 dX12_strikes_11 rfl rfl ?_
  refine aw_callVO_B (c12_isPeaAt s_2 x2) (io_12 (by decide)) ci_12 (by decide) mk_12_isPeaAt w_1931 w_102 w_1929 rfl rfl (Nat.le_of_ble_eq_true rfl) dX12_strikes_12 (fun v_3 => ?_)
  refine aw_bif_eq 26 dX12_strikes_15 (by decide) ?_ ?_
  · refine aw_aload_n 0 dX12_strikes_26 rfl rfl ?_
    refine aw_iconst 2 dX12_strikes_27 (by decide) ?_
    refine aw_callVW_I (c12_refuse s_2 2) (io_12 (by decide)) ci_12 (by decide) mk_12_refuse w_1919 w_101 w_1917 rfl rfl (Nat.le_of_ble_eq_true rfl) dX12_strikes_28 (fun v_4 s_5 => ?_)
    exact aw_ireturn rfl dX12_strikes_31
  · refine aw_aload_n 0 dX12_strikes_18 rfl rfl ?_
    refine aw_iload_n 1 dX12_strikes_19 rfl rfl ?_
    refine aw_callVO_B (c12_isShooterAt s_2 x1) (io_12 (by decide)) ci_12 (by decide) mk_12_isShooterAt w_1943 w_104 w_1941 rfl rfl (Nat.le_of_ble_eq_true rfl) dX12_strikes_20 (fun v_6 => ?_)
    refine aw_bif_ne 32 dX12_strikes_23 (by decide) ?_ ?_
    · refine aw_iload_n 3 dX12_strikes_32 rfl rfl ?_
      refine aw_aload_n 0 dX12_strikes_33 rfl rfl ?_
      refine aw_getf (fg_12_20 (by decide)) ci_12 (by decide) w_1476 dX12_strikes_34 ?_
      refine aw_bipush 53 dX12_strikes_37 (by decide) ?_
      refine aw_iload_n 1 dX12_strikes_39 rfl rfl ?_
      refine aw_iadd dX12_strikes_40 ?_
      refine aw_iaload (ar_12_5 (by decide)) dX12_strikes_41 (fun v_7 => ?_)
      refine aw_callST_B (c12_isPuffing s_2 x3 v_7) (by decide) mk_12_isPuffing w_1961 w_1960 rfl rfl (Nat.le_of_ble_eq_true rfl) dX12_strikes_42 ?_
      refine aw_bif_eq 82 dX12_strikes_45 (by decide) ?_ ?_
      · refine aw_aload_n 0 dX12_strikes_82 rfl rfl ?_
        refine aw_iconst 5 dX12_strikes_83 (by decide) ?_
        refine aw_callVW_I (c12_refuse s_2 5) (io_12 (by decide)) ci_12 (by decide) mk_12_refuse w_1919 w_101 w_1917 rfl rfl (Nat.le_of_ble_eq_true rfl) dX12_strikes_84 (fun v_8 s_9 => ?_)
        exact aw_ireturn rfl dX12_strikes_87
      · refine aw_iload 4 dX12_strikes_48 rfl ?_
        refine aw_iload 5 dX12_strikes_50 rfl ?_
        refine aw_callST_B (c12_isAim s_2 x4 x5) (by decide) mk_12_isAim w_1994 w_1993 rfl rfl (Nat.le_of_ble_eq_true rfl) dX12_strikes_52 ?_
        refine aw_bif_eq 82 dX12_strikes_55 (by decide) ?_ ?_
        · refine aw_aload_n 0 dX12_strikes_82 rfl rfl ?_
          refine aw_iconst 5 dX12_strikes_83 (by decide) ?_
          refine aw_callVW_I (c12_refuse s_2 5) (io_12 (by decide)) ci_12 (by decide) mk_12_refuse w_1919 w_101 w_1917 rfl rfl (Nat.le_of_ble_eq_true rfl) dX12_strikes_84 (fun v_10 s_11 => ?_)
          exact aw_ireturn rfl dX12_strikes_87
        · refine aw_iload 6 dX12_strikes_58 rfl ?_
          refine aw_i2l dX12_strikes_60 ?_
          refine aw_ldc2 w_1679 dX12_strikes_61 ?_
          refine aw_lconst 1 dX12_strikes_64 (by decide) ?_
          refine aw_callST_B (c12_isIn s_2 (Int32.toInt64 x6) (-1) 1) (by decide) mk_12_isIn w_1752 w_1751 rfl rfl (Nat.le_of_ble_eq_true rfl) dX12_strikes_65 ?_
          refine aw_bif_eq 82 dX12_strikes_68 (by decide) ?_ ?_
          · refine aw_aload_n 0 dX12_strikes_82 rfl rfl ?_
            refine aw_iconst 5 dX12_strikes_83 (by decide) ?_
            refine aw_callVW_I (c12_refuse s_2 5) (io_12 (by decide)) ci_12 (by decide) mk_12_refuse w_1919 w_101 w_1917 rfl rfl (Nat.le_of_ble_eq_true rfl) dX12_strikes_84 (fun v_12 s_13 => ?_)
            exact aw_ireturn rfl dX12_strikes_87
          · refine aw_iload 7 dX12_strikes_71 rfl ?_
            refine aw_i2l dX12_strikes_73 ?_
            refine aw_lconst 0 dX12_strikes_74 (by decide) ?_
            refine aw_lconst 1 dX12_strikes_75 (by decide) ?_
            refine aw_callST_B (c12_isIn s_2 (Int32.toInt64 x7) 0 1) (by decide) mk_12_isIn w_1752 w_1751 rfl rfl (Nat.le_of_ble_eq_true rfl) dX12_strikes_76 ?_
            refine aw_bif_ne 88 dX12_strikes_79 (by decide) ?_ ?_
            · refine aw_aload_n 0 dX12_strikes_88 rfl rfl ?_
              refine aw_iload_n 2 dX12_strikes_89 rfl rfl ?_
              refine aw_iload_n 3 dX12_strikes_90 rfl rfl ?_
              refine aw_aload_n 0 dX12_strikes_91 rfl rfl ?_
              refine aw_getf (fg_12_20 (by decide)) ci_12 (by decide) w_1476 dX12_strikes_92 ?_
              refine aw_bipush 7 dX12_strikes_95 (by decide) ?_
              refine aw_iaload (ar_12_5 (by decide)) dX12_strikes_97 (fun v_14 => ?_)
              refine aw_callVW_B (c12_flies s_2 x2 x3 v_14) (io_12 (by decide)) ci_12 (by decide) mk_12_flies w_1982 w_109 w_1980 rfl rfl (Nat.le_of_ble_eq_true rfl) dX12_strikes_98 (fun v_15 s_16 => ?_)
              refine aw_bif_ne 111 dX12_strikes_101 (by decide) ?_ ?_
              · refine aw_iload 7 dX12_strikes_111 rfl ?_
                refine aw_if_ne 129 dX12_strikes_113 (by decide) ?_ ?_
                · refine aw_aload_n 0 dX12_strikes_129 rfl rfl ?_
                  refine aw_iload_n 1 dX12_strikes_130 rfl rfl ?_
                  refine aw_iload 5 dX12_strikes_131 rfl ?_
                  refine aw_iconst 0 dX12_strikes_133 (by decide) ?_
                  refine aw_callVO_I (c12_strikeY s_16 x1 x5 0) (io_12 (by decide)) ci_12 (by decide) mk_12_strikeY w_2004 w_111 w_2002 rfl rfl (Nat.le_of_ble_eq_true rfl) dX12_strikes_134 (fun v_17 => ?_)
                  exact aw_ireturn rfl dX12_strikes_137
                · refine aw_aload_n 0 dX12_strikes_116 rfl rfl ?_
                  refine aw_iload_n 1 dX12_strikes_117 rfl rfl ?_
                  refine aw_iload 4 dX12_strikes_118 rfl ?_
                  refine aw_iload 6 dX12_strikes_120 rfl ?_
                  refine aw_iconst 0 dX12_strikes_122 (by decide) ?_
                  refine aw_callVO_I (c12_strikeX s_16 x1 x4 x6 0) (io_12 (by decide)) ci_12 (by decide) mk_12_strikeX w_2000 w_110 w_1998 rfl rfl (Nat.le_of_ble_eq_true rfl) dX12_strikes_123 (fun v_18 => ?_)
                  refine aw_goto 137 dX12_strikes_126 (by decide) ?_
                  exact aw_ireturn rfl dX12_strikes_137
              · refine aw_aload_n 0 dX12_strikes_104 rfl rfl ?_
                refine aw_bipush 9 dX12_strikes_105 (by decide) ?_
                refine aw_callVW_I (c12_refuse s_16 9) (io_12 (by decide)) ci_12 (by decide) mk_12_refuse w_1919 w_101 w_1917 rfl rfl (Nat.le_of_ble_eq_true rfl) dX12_strikes_107 (fun v_19 s_20 => ?_)
                exact aw_ireturn rfl dX12_strikes_110
            · refine aw_aload_n 0 dX12_strikes_82 rfl rfl ?_
              refine aw_iconst 5 dX12_strikes_83 (by decide) ?_
              refine aw_callVW_I (c12_refuse s_2 5) (io_12 (by decide)) ci_12 (by decide) mk_12_refuse w_1919 w_101 w_1917 rfl rfl (Nat.le_of_ble_eq_true rfl) dX12_strikes_84 (fun v_21 s_22 => ?_)
              exact aw_ireturn rfl dX12_strikes_87
    · refine aw_aload_n 0 dX12_strikes_26 rfl rfl ?_
      refine aw_iconst 2 dX12_strikes_27 (by decide) ?_
      refine aw_callVW_I (c12_refuse s_2 2) (io_12 (by decide)) ci_12 (by decide) mk_12_refuse w_1919 w_101 w_1917 rfl rfl (Nat.le_of_ble_eq_true rfl) dX12_strikes_28 (fun v_23 s_24 => ?_)
      exact aw_ireturn rfl dX12_strikes_31
def F12_isPlace (x0 : Int32) (x1 : Int32) : Bool :=
  if (F12_isIn (Int32.toInt64 x0) (-999) 999) = true then (if (F12_isIn (Int32.toInt64 x1) (-999) 999) = true then (true) else (false)) else (false)
set_option maxRecDepth 20000 in
theorem c12_isPlace {l : Launch} {D : va_G} {ad : Nat → Nat → Nat → Nat} {cid : Nat → Nat → Nat → ClassId} (σ : Mem) (x0 : Int32) (x1 : Int32) : AMF (XM l D ad cid) M12_isPlace 1 eB [.int x0, .int x1] σ (some (F12_isPlace x0 x1, σ)) := by
  refine AM.ofW (by decide +kernel) (Nat.le_of_ble_eq_true rfl) (ls := [(0, .int x0), (1, .int x1)]) rfl ?_
  refine aw_entryT ?_
  unfold F12_isPlace
  refine aw_iload_n 0 dX12_isPlace_0 rfl rfl ?_
  refine aw_i2l dX12_isPlace_1 ?_
  refine aw_ldc2 w_2013 dX12_isPlace_2 ?_
  refine aw_ldc2 w_2014 dX12_isPlace_5 ?_
  refine aw_callST_B (c12_isIn σ (Int32.toInt64 x0) (-999) 999) (by decide) mk_12_isIn w_1752 w_1751 rfl rfl (Nat.le_of_ble_eq_true rfl) dX12_isPlace_8 ?_
  refine aw_iteT ?_
  refine aw_bif_eq 32 dX12_isPlace_11 (by decide) ?_ ?_
  · refine aw_iconst 0 dX12_isPlace_32 (by decide) ?_
    exact aw_zreturn (b := false) rfl rfl dX12_isPlace_33
  · refine aw_iload_n 1 dX12_isPlace_14 rfl rfl ?_
    refine aw_i2l dX12_isPlace_15 ?_
    refine aw_ldc2 w_2013 dX12_isPlace_16 ?_
    refine aw_ldc2 w_2014 dX12_isPlace_19 ?_
    refine aw_callST_B (c12_isIn σ (Int32.toInt64 x1) (-999) 999) (by decide) mk_12_isIn w_1752 w_1751 rfl rfl (Nat.le_of_ble_eq_true rfl) dX12_isPlace_22 ?_
    refine aw_iteT ?_
    refine aw_bif_eq 32 dX12_isPlace_25 (by decide) ?_ ?_
    · refine aw_iconst 0 dX12_isPlace_32 (by decide) ?_
      exact aw_zreturn (b := false) rfl rfl dX12_isPlace_33
    · refine aw_iconst 1 dX12_isPlace_28 (by decide) ?_
      refine aw_goto 33 dX12_isPlace_29 (by decide) ?_
      exact aw_zreturn (b := true) rfl rfl dX12_isPlace_33
def F12_ringOf_L9 (x1 : Int32) (x2 : Int32) : Nat → Mem → Int32 → Option Int32
  | 0 => fun _ _ => none
  | n + 1 => fun σ x3 =>
    if x3 < 0 then (some (-1)) else ((ald 3000 (gI σ 12 0 5) (9 + x3)).bind fun v_3 => (ald 3000 (gI σ 12 0 5) (9 + x3)).bind fun v_4 => if (v_3 * v_4) < ((x1 * x1) + (x2 * x2)) then ((F12_ringOf_L9 x1 x2 n) σ (x3 + (-1))) else (some x3))
set_option maxRecDepth 20000 in
theorem c12_ringOf_L9 {l : Launch} {D : va_G} {ad : Nat → Nat → Nat → Nat} {cid : Nat → Nat → Nat → ClassId} (x1 : Int32) (x2 : Int32) : ∀ (n : Nat) (σ : Mem) (x3 : Int32), AW (XM l D ad cid) M12_ringOf 0 eI [(0, .ref (ad 12 0 0)), (1, .int x1), (2, .int x2), (3, .int x3)] 9 [] σ ((F12_ringOf_L9 x1 x2 n σ x3).bind (fun v => some (v, σ))) := by
  intro n
  induction n with
  | zero => intros; exact aw_none
  | succ n ih =>
    intro σ x3
    rw [F12_ringOf_L9.eq_2]
    refine aw_iload_n 3 dX12_ringOf_9 rfl rfl ?_
    refine aw_if_lt 50 dX12_ringOf_10 (by decide) ?_ ?_
    · refine aw_iconst (-1) dX12_ringOf_50 (by decide) ?_
      exact aw_ireturn rfl dX12_ringOf_51
    · refine aw_iload_n 1 dX12_ringOf_13 rfl rfl ?_
      refine aw_iload_n 1 dX12_ringOf_14 rfl rfl ?_
      refine aw_imul dX12_ringOf_15 ?_
      refine aw_iload_n 2 dX12_ringOf_16 rfl rfl ?_
      refine aw_iload_n 2 dX12_ringOf_17 rfl rfl ?_
      refine aw_imul dX12_ringOf_18 ?_
      refine aw_iadd dX12_ringOf_19 ?_
      refine aw_aload_n 0 dX12_ringOf_20 rfl rfl ?_
      refine aw_getf (fg_12_20 (by decide)) ci_12 (by decide) w_1476 dX12_ringOf_21 ?_
      refine aw_bipush 9 dX12_ringOf_24 (by decide) ?_
      refine aw_iload_n 3 dX12_ringOf_26 rfl rfl ?_
      refine aw_iadd dX12_ringOf_27 ?_
      refine aw_iaload (ar_12_5 (by decide)) dX12_ringOf_28 (fun v_3 => ?_)
      refine aw_aload_n 0 dX12_ringOf_29 rfl rfl ?_
      refine aw_getf (fg_12_20 (by decide)) ci_12 (by decide) w_1476 dX12_ringOf_30 ?_
      refine aw_bipush 9 dX12_ringOf_33 (by decide) ?_
      refine aw_iload_n 3 dX12_ringOf_35 rfl rfl ?_
      refine aw_iadd dX12_ringOf_36 ?_
      refine aw_iaload (ar_12_5 (by decide)) dX12_ringOf_37 (fun v_4 => ?_)
      refine aw_imul dX12_ringOf_38 ?_
      refine aw_icmp_gt 44 dX12_ringOf_39 (by decide) ?_ ?_
      · refine aw_iinc (ls' := [(0, .ref (ad 12 0 0)), (1, .int x1), (2, .int x2), (3, .int (x3 + (-1)))]) (x3 + (-1)) 3 [1, 2, 3, 0] dX12_ringOf_44 rfl (by rfl) (by decide) rfl ?_
        refine aw_goto 9 dX12_ringOf_47 (by decide) ?_
        exact ih σ (x3 + (-1))
      · refine aw_iload_n 3 dX12_ringOf_42 rfl rfl ?_
        exact aw_ireturn rfl dX12_ringOf_43
def F12_ringOf (σ : Mem) (x1 : Int32) (x2 : Int32) : Option Int32 :=
  (ald 3000 (gI σ 12 0 5) 4).bind fun v_1 => bnd (v_1 - 1) fun v_2 => F12_ringOf_L9 x1 x2 fuelK σ v_2
set_option maxRecDepth 20000 in
theorem c12_ringOf {l : Launch} {D : va_G} {ad : Nat → Nat → Nat → Nat} {cid : Nat → Nat → Nat → ClassId} (σ : Mem) (x1 : Int32) (x2 : Int32) : AMF (XM l D ad cid) M12_ringOf 0 eI [.ref (ad 12 0 0), .int x1, .int x2] σ (oM σ (F12_ringOf σ x1 x2)) := by
  refine AM.ofW (by decide +kernel) (Nat.le_of_ble_eq_true rfl) (ls := [(0, .ref (ad 12 0 0)), (1, .int x1), (2, .int x2)]) rfl ?_
  refine aw_entryO ?_
  unfold F12_ringOf
  refine aw_aload_n 0 dX12_ringOf_0 rfl rfl ?_
  refine aw_getf (fg_12_20 (by decide)) ci_12 (by decide) w_1476 dX12_ringOf_1 ?_
  refine aw_iconst 4 dX12_ringOf_4 (by decide) ?_
  refine aw_iaload (ar_12_5 (by decide)) dX12_ringOf_5 (fun v_1 => ?_)
  refine aw_iconst 1 dX12_ringOf_6 (by decide) ?_
  refine aw_isub dX12_ringOf_7 ?_
  refine aw_bnd_int (fun v_2 => ?_)
  refine aw_istore_n (ls' := [(0, .ref (ad 12 0 0)), (1, .int x1), (2, .int x2), (3, .int v_2)]) [1, 2, 3, 0] dX12_ringOf_8 rfl (by decide) rfl ?_
  exact c12_ringOf_L9 x1 x2 fuelK σ v_2
def F12_pointsOf (σ : Mem) (x1 : Int32) (x2 : Int32) : Option Int32 :=
  (F12_ringOf σ x1 x2).bind fun v_1 => if 0 ≤ v_1 then ((ald 3000 (gI σ 12 0 5) (15 + v_1)).bind fun v_2 => some v_2) else (some 0)
set_option maxRecDepth 20000 in
theorem c12_pointsOf {l : Launch} {D : va_G} {ad : Nat → Nat → Nat → Nat} {cid : Nat → Nat → Nat → ClassId} (σ : Mem) (x1 : Int32) (x2 : Int32) : AMF (XM l D ad cid) M12_pointsOf 1 eI [.ref (ad 12 0 0), .int x1, .int x2] σ (oM σ (F12_pointsOf σ x1 x2)) := by
  refine AM.ofW (by decide +kernel) (Nat.le_of_ble_eq_true rfl) (ls := [(0, .ref (ad 12 0 0)), (1, .int x1), (2, .int x2)]) rfl ?_
  refine aw_entryO ?_
  unfold F12_pointsOf
  refine aw_aload_n 0 dX12_pointsOf_0 rfl rfl ?_
  refine aw_iload_n 1 dX12_pointsOf_1 rfl rfl ?_
  refine aw_iload_n 2 dX12_pointsOf_2 rfl rfl ?_
  refine aw_callVO_I (c12_ringOf σ x1 x2) (io_12 (by decide)) ci_12 (by decide) mk_12_ringOf w_2021 w_113 w_2019 rfl rfl (Nat.le_of_ble_eq_true rfl) dX12_pointsOf_3 (fun v_1 => ?_)
  refine aw_istore_n (ls' := [(0, .ref (ad 12 0 0)), (3, .int v_1)]) [1, 0] dX12_pointsOf_6 rfl (by decide) rfl ?_
  refine aw_iload_n 1 dX12_pointsOf_7 rfl rfl ?_
  refine aw_if_ge 15 dX12_pointsOf_8 (by decide) ?_ ?_
  · refine aw_aload_n 0 dX12_pointsOf_15 rfl rfl ?_
    refine aw_getf (fg_12_20 (by decide)) ci_12 (by decide) w_1476 dX12_pointsOf_16 ?_
    refine aw_bipush 15 dX12_pointsOf_19 (by decide) ?_
    refine aw_iload_n 1 dX12_pointsOf_21 rfl rfl ?_
    refine aw_iadd dX12_pointsOf_22 ?_
    refine aw_iaload (ar_12_5 (by decide)) dX12_pointsOf_23 (fun v_2 => ?_)
    exact aw_ireturn rfl dX12_pointsOf_24
  · refine aw_iconst 0 dX12_pointsOf_11 (by decide) ?_
    refine aw_goto 24 dX12_pointsOf_12 (by decide) ?_
    exact aw_ireturn rfl dX12_pointsOf_24
def F12_points (σ : Mem) (x1 : Int32) (x2 : Int32) : Option (Int32 × Mem) :=
  bnd (sI σ 12 0 0 1 0) fun s_1 => bnd (sI s_1 12 0 0 0 0) fun s_2 => if (F12_isPlace x1 x2) = true then ((F12_pointsOf s_2 x1 x2).bind fun v_5 => some (v_5, s_2)) else (bd (F12_refuse s_2 5) fun v_3 s_4 => some (v_3, s_4))
set_option maxRecDepth 20000 in
theorem c12_points {l : Launch} {D : va_G} {ad : Nat → Nat → Nat → Nat} {cid : Nat → Nat → Nat → ClassId} (σ : Mem) (x1 : Int32) (x2 : Int32) : AMF (XM l D ad cid) M12_points 2 eI [.ref (ad 12 0 0), .int x1, .int x2] σ (F12_points σ x1 x2) := by
  refine AM.ofW (by decide +kernel) (Nat.le_of_ble_eq_true rfl) (ls := [(0, .ref (ad 12 0 0)), (1, .int x1), (2, .int x2)]) rfl ?_
  refine aw_entry ?_
  unfold F12_points
  refine aw_aload_n 0 dX12_points_0 rfl rfl ?_
  refine aw_iconst 0 dX12_points_1 (by decide) ?_
  refine aw_putI (fs_12_1 (by decide)) ci_12 (by decide) rfl rfl w_1457 dX12_points_2 ?_
  refine aw_bndM (fun s_1 => ?_)
  refine aw_aload_n 0 dX12_points_5 rfl rfl ?_
  refine aw_iconst 0 dX12_points_6 (by decide) ?_
  refine aw_putI (fs_12_0 (by decide)) ci_12 (by decide) rfl rfl w_1456 dX12_points_7 ?_
  refine aw_bndM (fun s_2 => ?_)
  refine aw_iload_n 1 dX12_points_10 rfl rfl ?_
  refine aw_iload_n 2 dX12_points_11 rfl rfl ?_
  refine aw_callST_B (c12_isPlace s_2 x1 x2) (by decide) mk_12_isPlace w_2011 w_2010 rfl rfl (Nat.le_of_ble_eq_true rfl) dX12_points_12 ?_
  refine aw_bif_eq 27 dX12_points_15 (by decide) ?_ ?_
  · refine aw_aload_n 0 dX12_points_27 rfl rfl ?_
    refine aw_iconst 5 dX12_points_28 (by decide) ?_
    refine aw_callVW_I (c12_refuse s_2 5) (io_12 (by decide)) ci_12 (by decide) mk_12_refuse w_1919 w_101 w_1917 rfl rfl (Nat.le_of_ble_eq_true rfl) dX12_points_29 (fun v_3 s_4 => ?_)
    exact aw_ireturn rfl dX12_points_32
  · refine aw_aload_n 0 dX12_points_18 rfl rfl ?_
    refine aw_iload_n 1 dX12_points_19 rfl rfl ?_
    refine aw_iload_n 2 dX12_points_20 rfl rfl ?_
    refine aw_callVO_I (c12_pointsOf s_2 x1 x2) (io_12 (by decide)) ci_12 (by decide) mk_12_pointsOf w_2017 w_112 w_2015 rfl rfl (Nat.le_of_ble_eq_true rfl) dX12_points_21 (fun v_5 => ?_)
    refine aw_goto 32 dX12_points_24 (by decide) ?_
    exact aw_ireturn rfl dX12_points_32
def F12_ringAt (σ : Mem) (x1 : Int32) (x2 : Int32) : Option (Int32 × Mem) :=
  bnd (sI σ 12 0 0 1 0) fun s_1 => bnd (sI s_1 12 0 0 0 0) fun s_2 => if (F12_isPlace x1 x2) = true then ((F12_ringOf s_2 x1 x2).bind fun v_3 => if 0 ≤ v_3 then (some (v_3, s_2)) else (bd (F12_refuse s_2 8) fun v_4 s_5 => some (v_4, s_5))) else (bd (F12_refuse s_2 5) fun v_6 s_7 => some (v_6, s_7))
set_option maxRecDepth 20000 in
theorem c12_ringAt {l : Launch} {D : va_G} {ad : Nat → Nat → Nat → Nat} {cid : Nat → Nat → Nat → ClassId} (σ : Mem) (x1 : Int32) (x2 : Int32) : AMF (XM l D ad cid) M12_ringAt 2 eI [.ref (ad 12 0 0), .int x1, .int x2] σ (F12_ringAt σ x1 x2) := by
  refine AM.ofW (by decide +kernel) (Nat.le_of_ble_eq_true rfl) (ls := [(0, .ref (ad 12 0 0)), (1, .int x1), (2, .int x2)]) rfl ?_
  refine aw_entry ?_
  unfold F12_ringAt
  refine aw_aload_n 0 dX12_ringAt_0 rfl rfl ?_
  refine aw_iconst 0 dX12_ringAt_1 (by decide) ?_
  refine aw_putI (fs_12_1 (by decide)) ci_12 (by decide) rfl rfl w_1457 dX12_ringAt_2 ?_
  refine aw_bndM (fun s_1 => ?_)
  refine aw_aload_n 0 dX12_ringAt_5 rfl rfl ?_
  refine aw_iconst 0 dX12_ringAt_6 (by decide) ?_
  refine aw_putI (fs_12_0 (by decide)) ci_12 (by decide) rfl rfl w_1456 dX12_ringAt_7 ?_
  refine aw_bndM (fun s_2 => ?_)
  refine aw_iload_n 1 dX12_ringAt_10 rfl rfl ?_
  refine aw_iload_n 2 dX12_ringAt_11 rfl rfl ?_
  refine aw_callST_B (c12_isPlace s_2 x1 x2) (by decide) mk_12_isPlace w_2011 w_2010 rfl rfl (Nat.le_of_ble_eq_true rfl) dX12_ringAt_12 ?_
  refine aw_bif_ne 24 dX12_ringAt_15 (by decide) ?_ ?_
  · refine aw_aload_n 0 dX12_ringAt_24 rfl rfl ?_
    refine aw_iload_n 1 dX12_ringAt_25 rfl rfl ?_
    refine aw_iload_n 2 dX12_ringAt_26 rfl rfl ?_
    refine aw_callVO_I (c12_ringOf s_2 x1 x2) (io_12 (by decide)) ci_12 (by decide) mk_12_ringOf w_2021 w_113 w_2019 rfl rfl (Nat.le_of_ble_eq_true rfl) dX12_ringAt_27 (fun v_3 => ?_)
    refine aw_istore_n (ls' := [(0, .ref (ad 12 0 0)), (3, .int v_3)]) [1, 0] dX12_ringAt_30 rfl (by decide) rfl ?_
    refine aw_iload_n 1 dX12_ringAt_31 rfl rfl ?_
    refine aw_if_ge 44 dX12_ringAt_32 (by decide) ?_ ?_
    · refine aw_iload_n 1 dX12_ringAt_44 rfl rfl ?_
      exact aw_ireturn rfl dX12_ringAt_45
    · refine aw_aload_n 0 dX12_ringAt_35 rfl rfl ?_
      refine aw_bipush 8 dX12_ringAt_36 (by decide) ?_
      refine aw_callVW_I (c12_refuse s_2 8) (io_12 (by decide)) ci_12 (by decide) mk_12_refuse w_1919 w_101 w_1917 rfl rfl (Nat.le_of_ble_eq_true rfl) dX12_ringAt_38 (fun v_4 s_5 => ?_)
      refine aw_goto 45 dX12_ringAt_41 (by decide) ?_
      exact aw_ireturn rfl dX12_ringAt_45
  · refine aw_aload_n 0 dX12_ringAt_18 rfl rfl ?_
    refine aw_iconst 5 dX12_ringAt_19 (by decide) ?_
    refine aw_callVW_I (c12_refuse s_2 5) (io_12 (by decide)) ci_12 (by decide) mk_12_refuse w_1919 w_101 w_1917 rfl rfl (Nat.le_of_ble_eq_true rfl) dX12_ringAt_20 (fun v_6 s_7 => ?_)
    exact aw_ireturn rfl dX12_ringAt_23
def F12_handOf (σ : Mem) (x1 : Int32) (x2 : Int32) : Option Int32 :=
  (ald 3000 (gI σ 12 0 5) (59 + x1)).bind fun v_1 => if x2 = 0 then (some v_1) else (if x2 = 1 then (some ((v_1 + 1) / 2)) else (if x2 = 2 then (some (iMin 1 v_1)) else (some 0)))
set_option maxRecDepth 20000 in
theorem c12_handOf {l : Launch} {D : va_G} {ad : Nat → Nat → Nat → Nat} {cid : Nat → Nat → Nat → ClassId} (σ : Mem) (x1 : Int32) (x2 : Int32) : AMF (XM l D ad cid) M12_handOf 0 eI [.ref (ad 12 0 0), .int x1, .int x2] σ (oM σ (F12_handOf σ x1 x2)) := by
  refine AM.ofW (by decide +kernel) (Nat.le_of_ble_eq_true rfl) (ls := [(0, .ref (ad 12 0 0)), (1, .int x1), (2, .int x2)]) rfl ?_
  refine aw_entryO ?_
  unfold F12_handOf
  refine aw_aload_n 0 dX12_handOf_0 rfl rfl ?_
  refine aw_getf (fg_12_20 (by decide)) ci_12 (by decide) w_1476 dX12_handOf_1 ?_
  refine aw_bipush 59 dX12_handOf_4 (by decide) ?_
  refine aw_iload_n 1 dX12_handOf_6 rfl rfl ?_
  refine aw_iadd dX12_handOf_7 ?_
  refine aw_iaload (ar_12_5 (by decide)) dX12_handOf_8 (fun v_1 => ?_)
  refine aw_istore_n (ls' := [(2, .int x2), (3, .int v_1)]) [3, 0] dX12_handOf_9 rfl (by decide) rfl ?_
  refine aw_iload_n 0 dX12_handOf_10 rfl rfl ?_
  refine aw_if_ne 18 dX12_handOf_11 (by decide) ?_ ?_
  · refine aw_iload_n 0 dX12_handOf_18 rfl rfl ?_
    refine aw_iconst 1 dX12_handOf_19 (by decide) ?_
    refine aw_icmp_ne 31 dX12_handOf_20 (by decide) ?_ ?_
    · refine aw_iload_n 0 dX12_handOf_31 rfl rfl ?_
      refine aw_iconst 2 dX12_handOf_32 (by decide) ?_
      refine aw_icmp_ne 44 dX12_handOf_33 (by decide) ?_ ?_
      · refine aw_iconst 0 dX12_handOf_44 (by decide) ?_
        exact aw_ireturn rfl dX12_handOf_45
      · refine aw_iconst 1 dX12_handOf_36 (by decide) ?_
        refine aw_iload_n 1 dX12_handOf_37 rfl rfl ?_
        refine aw_min w_2035 w_863 w_159 w_864 (Nat.le_of_ble_eq_true rfl) dX12_handOf_38 ?_
        refine aw_goto 45 dX12_handOf_41 (by decide) ?_
        exact aw_ireturn rfl dX12_handOf_45
    · refine aw_iload_n 1 dX12_handOf_23 rfl rfl ?_
      refine aw_iconst 1 dX12_handOf_24 (by decide) ?_
      refine aw_iadd dX12_handOf_25 ?_
      refine aw_iconst 2 dX12_handOf_26 (by decide) ?_
      refine aw_idiv_c dX12_handOf_27 (by decide) ?_
      refine aw_goto 45 dX12_handOf_28 (by decide) ?_
      exact aw_ireturn rfl dX12_handOf_45
  · refine aw_iload_n 1 dX12_handOf_14 rfl rfl ?_
    refine aw_goto 45 dX12_handOf_15 (by decide) ?_
    exact aw_ireturn rfl dX12_handOf_45
def F12_hand (σ : Mem) (x1 : Int32) (x2 : Int32) : Option (Int32 × Mem) :=
  bnd (sI σ 12 0 0 1 0) fun s_1 => bnd (sI s_1 12 0 0 0 0) fun s_2 => (F12_isShooterAt s_2 x1).bind fun v_3 => if v_3 = true then (if (F12_isIn (Int32.toInt64 x2) 0 3) = true then ((F12_handOf s_2 x1 x2).bind fun v_6 => some (v_6, s_2)) else (bd (F12_refuse s_2 5) fun v_4 s_5 => some (v_4, s_5))) else (bd (F12_refuse s_2 2) fun v_7 s_8 => some (v_7, s_8))
set_option maxRecDepth 20000 in
theorem c12_hand {l : Launch} {D : va_G} {ad : Nat → Nat → Nat → Nat} {cid : Nat → Nat → Nat → ClassId} (σ : Mem) (x1 : Int32) (x2 : Int32) : AMF (XM l D ad cid) M12_hand 2 eI [.ref (ad 12 0 0), .int x1, .int x2] σ (F12_hand σ x1 x2) := by
  refine AM.ofW (by decide +kernel) (Nat.le_of_ble_eq_true rfl) (ls := [(0, .ref (ad 12 0 0)), (1, .int x1), (2, .int x2)]) rfl ?_
  refine aw_entry ?_
  unfold F12_hand
  refine aw_aload_n 0 dX12_hand_0 rfl rfl ?_
  refine aw_iconst 0 dX12_hand_1 (by decide) ?_
  refine aw_putI (fs_12_1 (by decide)) ci_12 (by decide) rfl rfl w_1457 dX12_hand_2 ?_
  refine aw_bndM (fun s_1 => ?_)
  refine aw_aload_n 0 dX12_hand_5 rfl rfl ?_
  refine aw_iconst 0 dX12_hand_6 (by decide) ?_
  refine aw_putI (fs_12_0 (by decide)) ci_12 (by decide) rfl rfl w_1456 dX12_hand_7 ?_
  refine aw_bndM (fun s_2 => ?_)
  refine aw_aload_n 0 dX12_hand_10 rfl rfl ?_
  refine aw_iload_n 1 dX12_hand_11 rfl rfl ?_
  refine aw_callVO_B (c12_isShooterAt s_2 x1) (io_12 (by decide)) ci_12 (by decide) mk_12_isShooterAt w_1943 w_104 w_1941 rfl rfl (Nat.le_of_ble_eq_true rfl) dX12_hand_12 (fun v_3 => ?_)
  refine aw_bif_ne 24 dX12_hand_15 (by decide) ?_ ?_
  · refine aw_iload_n 2 dX12_hand_24 rfl rfl ?_
    refine aw_i2l dX12_hand_25 ?_
    refine aw_lconst 0 dX12_hand_26 (by decide) ?_
    refine aw_ldc2 w_1979 dX12_hand_27 ?_
    refine aw_callST_B (c12_isIn s_2 (Int32.toInt64 x2) 0 3) (by decide) mk_12_isIn w_1752 w_1751 rfl rfl (Nat.le_of_ble_eq_true rfl) dX12_hand_30 ?_
    refine aw_bif_eq 45 dX12_hand_33 (by decide) ?_ ?_
    · refine aw_aload_n 0 dX12_hand_45 rfl rfl ?_
      refine aw_iconst 5 dX12_hand_46 (by decide) ?_
      refine aw_callVW_I (c12_refuse s_2 5) (io_12 (by decide)) ci_12 (by decide) mk_12_refuse w_1919 w_101 w_1917 rfl rfl (Nat.le_of_ble_eq_true rfl) dX12_hand_47 (fun v_4 s_5 => ?_)
      exact aw_ireturn rfl dX12_hand_50
    · refine aw_aload_n 0 dX12_hand_36 rfl rfl ?_
      refine aw_iload_n 1 dX12_hand_37 rfl rfl ?_
      refine aw_iload_n 2 dX12_hand_38 rfl rfl ?_
      refine aw_callVO_I (c12_handOf s_2 x1 x2) (io_12 (by decide)) ci_12 (by decide) mk_12_handOf w_2033 w_114 w_2031 rfl rfl (Nat.le_of_ble_eq_true rfl) dX12_hand_39 (fun v_6 => ?_)
      refine aw_goto 50 dX12_hand_42 (by decide) ?_
      exact aw_ireturn rfl dX12_hand_50
  · refine aw_aload_n 0 dX12_hand_18 rfl rfl ?_
    refine aw_iconst 2 dX12_hand_19 (by decide) ?_
    refine aw_callVW_I (c12_refuse s_2 2) (io_12 (by decide)) ci_12 (by decide) mk_12_refuse w_1919 w_101 w_1917 rfl rfl (Nat.le_of_ble_eq_true rfl) dX12_hand_20 (fun v_7 s_8 => ?_)
    exact aw_ireturn rfl dX12_hand_23
def F12_isShot (σ : Mem) (x1 : Int32) (x2 : Int32) : Option Bool :=
  (F12_isShooterAt σ x1).bind fun v_1 => if v_1 = true then ((F12_isPeaAt σ x2).bind fun v_2 => if v_2 = true then (some true) else (some false)) else (some false)
set_option maxRecDepth 20000 in
theorem c12_isShot {l : Launch} {D : va_G} {ad : Nat → Nat → Nat → Nat} {cid : Nat → Nat → Nat → ClassId} (σ : Mem) (x1 : Int32) (x2 : Int32) : AMF (XM l D ad cid) M12_isShot 2 eB [.ref (ad 12 0 0), .int x1, .int x2] σ (oM σ (F12_isShot σ x1 x2)) := by
  refine AM.ofW (by decide +kernel) (Nat.le_of_ble_eq_true rfl) (ls := [(0, .ref (ad 12 0 0)), (1, .int x1), (2, .int x2)]) rfl ?_
  refine aw_entryO ?_
  unfold F12_isShot
  refine aw_aload_n 0 dX12_isShot_0 rfl rfl ?_
  refine aw_iload_n 1 dX12_isShot_1 rfl rfl ?_
  refine aw_callVO_B (c12_isShooterAt σ x1) (io_12 (by decide)) ci_12 (by decide) mk_12_isShooterAt w_1943 w_104 w_1941 rfl rfl (Nat.le_of_ble_eq_true rfl) dX12_isShot_2 (fun v_1 => ?_)
  refine aw_bif_eq 20 dX12_isShot_5 (by decide) ?_ ?_
  · refine aw_iconst 0 dX12_isShot_20 (by decide) ?_
    exact aw_zreturn (b := false) rfl rfl dX12_isShot_21
  · refine aw_aload_n 0 dX12_isShot_8 rfl rfl ?_
    refine aw_iload_n 2 dX12_isShot_9 rfl rfl ?_
    refine aw_callVO_B (c12_isPeaAt σ x2) (io_12 (by decide)) ci_12 (by decide) mk_12_isPeaAt w_1931 w_102 w_1929 rfl rfl (Nat.le_of_ble_eq_true rfl) dX12_isShot_10 (fun v_2 => ?_)
    refine aw_bif_eq 20 dX12_isShot_13 (by decide) ?_ ?_
    · refine aw_iconst 0 dX12_isShot_20 (by decide) ?_
      exact aw_zreturn (b := false) rfl rfl dX12_isShot_21
    · refine aw_iconst 1 dX12_isShot_16 (by decide) ?_
      refine aw_goto 21 dX12_isShot_17 (by decide) ?_
      exact aw_zreturn (b := true) rfl rfl dX12_isShot_21
def F12_counts_L3 (x1 : Int32) (x2 : Int32) (x3 : Int32) (x4 : Int32) (x5 : Int32) (x6 : Int32) (x7 : Int32) : Nat → Mem → Int32 → Option ((Unit) × Mem)
  | 0 => fun _ _ => none
  | n + 1 => fun σ x8 =>
    if 21 ≤ x8 then (some ((), σ)) else (chk 21 x8 <| bnd (sI σ 12 0 8 (Int32.toNatClampNeg x8) 0) fun s_1 => (F12_counts_L3 x1 x2 x3 x4 x5 x6 x7 n) s_1 (x8 + 1))
set_option maxRecDepth 20000 in
theorem c12_counts_L3 {l : Launch} {D : va_G} {ad : Nat → Nat → Nat → Nat} {cid : Nat → Nat → Nat → ClassId} {α : Type} {emb : α → Option Value} (x1 : Int32) (x2 : Int32) (x3 : Int32) (x4 : Int32) (x5 : Int32) (x6 : Int32) (x7 : Int32) {G : Unit → Mem → Option (α × Mem)} (kx : ∀ r σ, AW (XM l D ad cid) M12_counts 4 emb [(0, .ref (ad 12 0 0)), (1, .int x1), (2, .int x2), (3, .int x3), (4, .int x4), (5, .int x5), (6, .int x6), (7, .int x7)] 24 [] σ (G r σ)) : ∀ (n : Nat) (σ : Mem) (x8 : Int32), AW (XM l D ad cid) M12_counts 4 emb [(0, .ref (ad 12 0 0)), (1, .int x1), (2, .int x2), (3, .int x3), (4, .int x4), (5, .int x5), (6, .int x6), (7, .int x7), (8, .int x8)] 3 [] σ (bd (F12_counts_L3 x1 x2 x3 x4 x5 x6 x7 n σ x8) G) := by
  intro n
  induction n with
  | zero => intros; exact aw_none
  | succ n ih =>
    intro σ x8
    refine aw_bdB ?_
    rw [F12_counts_L3.eq_2]
    refine aw_iload 8 dX12_counts_3 rfl ?_
    refine aw_bipush 21 dX12_counts_5 (by decide) ?_
    refine aw_icmp_ge 24 dX12_counts_7 (by decide) ?_ ?_
    · refine aw_ls (ls' := [(0, .ref (ad 12 0 0)), (1, .int x1), (2, .int x2), (3, .int x3), (4, .int x4), (5, .int x5), (6, .int x6), (7, .int x7)]) [0, 1, 2, 3, 4, 5, 6, 7] rfl ?_
      exact kx () σ
    · refine aw_aload_n 0 dX12_counts_10 rfl rfl ?_
      refine aw_getf (fg_12_32 (by decide)) ci_12 (by decide) w_1488 dX12_counts_11 ?_
      refine aw_iload 8 dX12_counts_14 rfl ?_
      refine aw_iconst 0 dX12_counts_16 (by decide) ?_
      refine aw_iastore (ar_12_8 (by decide)) dX12_counts_17 ?_
      refine aw_bndM (fun s_1 => ?_)
      refine aw_iinc (ls' := [(0, .ref (ad 12 0 0)), (1, .int x1), (2, .int x2), (3, .int x3), (4, .int x4), (5, .int x5), (6, .int x6), (7, .int x7), (8, .int (x8 + 1))]) (x8 + 1) 8 [1, 2, 3, 4, 5, 6, 7, 8, 0] dX12_counts_18 rfl (by rfl) (by decide) rfl ?_
      refine aw_goto 3 dX12_counts_21 (by decide) ?_
      exact ih s_1 (x8 + 1)
def F12_counts_p145 (rc : Mem → Int32 → Option ((Unit) × Mem)) (σ : Mem) (x1 : Int32) (x5 : Int32) (x6 : Int32) (x8 : Int32) (x9 : Int32) (x10 : Int32) (x11 : Int32) (x12 : Int32) (q2 : Int32) (q3 : Int32) (q4 : Int32) : Option ((Unit) × Mem) :=
  (F12_strikeX σ q2 q3 q4 x10).bind fun v_12 => (F12_strikeY σ x1 x6 x11).bind fun v_13 => (F12_pointsOf σ v_12 v_13).bind fun v_14 => (ald 21 (gI σ 12 0 8) v_14).bind fun v_15 => chk 21 v_14 <| bnd (sI σ 12 0 8 (Int32.toNatClampNeg v_14) (v_15 + 1)) fun s_16 => bnd (sI s_16 12 0 0 34 ((gI s_16 12 0 0 34) + v_14)) fun s_17 => rc s_17 (x12 + 1)
set_option maxRecDepth 20000 in
theorem c12_counts_p145 {l : Launch} {D : va_G} {ad : Nat → Nat → Nat → Nat} {cid : Nat → Nat → Nat → ClassId} {α : Type} {emb : α → Option Value}  (x1 : Int32) (x5 : Int32) (x6 : Int32) (x8 : Int32) (x9 : Int32) (x10 : Int32) (x11 : Int32) {G : Unit → Mem → Option (α × Mem)} (kx : ∀ r σ, AW (XM l D ad cid) M12_counts 4 emb [(0, .ref (ad 12 0 0)), (1, .int x1), (5, .int x5), (6, .int x6), (8, .int x8), (9, .int x9), (10, .int x10), (11, .int x11)] 192 [] σ (G r σ)) {rc : Mem → Int32 → Option ((Unit) × Mem)} (ih : ∀ (σ : Mem) (x12 : Int32), AW (XM l D ad cid) M12_counts 4 emb [(0, .ref (ad 12 0 0)), (1, .int x1), (5, .int x5), (6, .int x6), (8, .int x8), (9, .int x9), (10, .int x10), (11, .int x11), (12, .int x12)] 123 [] σ (bd (rc σ x12) G)) (σ : Mem) (x12 : Int32) (q2 : Int32) (q3 : Int32) (q4 : Int32) : AW (XM l D ad cid) M12_counts 4 emb [(0, .ref (ad 12 0 0)), (1, .int x1), (5, .int x5), (6, .int x6), (8, .int x8), (9, .int x9), (10, .int x10), (11, .int x11), (12, .int x12)] 145 [.int q4, .int q3, .int q2, .ref (ad 12 0 0), .ref (ad 12 0 0)] σ ((F12_counts_p145 rc σ x1 x5 x6 x8 x9 x10 x11 x12 q2 q3 q4).bind (fun q => G q.1 q.2)) := by
  unfold F12_counts_p145
  refine aw_iload 6 dX12_counts_145 rfl ?_
  refine aw_callVO_I (c12_strikeX σ q2 q3 q4 x10) (io_12 (by decide)) ci_12 (by decide) mk_12_strikeX w_2000 w_110 w_1998 rfl rfl (Nat.le_of_ble_eq_true rfl) dX12_counts_147 (fun v_12 => ?_)
  refine aw_aload_n 0 dX12_counts_150 rfl rfl ?_
  refine aw_iload_n 1 dX12_counts_151 rfl rfl ?_
  refine aw_iload 3 dX12_counts_152 rfl ?_
  refine aw_iload 7 dX12_counts_154 rfl ?_
  refine aw_callVO_I (c12_strikeY σ x1 x6 x11) (io_12 (by decide)) ci_12 (by decide) mk_12_strikeY w_2004 w_111 w_2002 rfl rfl (Nat.le_of_ble_eq_true rfl) dX12_counts_156 (fun v_13 => ?_)
  refine aw_callVO_I (c12_pointsOf σ v_12 v_13) (io_12 (by decide)) ci_12 (by decide) mk_12_pointsOf w_2017 w_112 w_2015 rfl rfl (Nat.le_of_ble_eq_true rfl) dX12_counts_159 (fun v_14 => ?_)
  refine aw_istore (ls' := [(0, .ref (ad 12 0 0)), (1, .int x1), (5, .int x5), (6, .int x6), (8, .int x8), (9, .int x9), (10, .int x10), (11, .int x11), (12, .int x12), (13, .int v_14)]) [1, 2, 3, 4, 5, 6, 7, 8, 9, 0] dX12_counts_162 (by decide) rfl ?_
  refine aw_aload_n 0 dX12_counts_164 rfl rfl ?_
  refine aw_getf (fg_12_32 (by decide)) ci_12 (by decide) w_1488 dX12_counts_165 ?_
  refine aw_iload 9 dX12_counts_168 rfl ?_
  refine aw_dup2_11 dX12_counts_170 rfl rfl ?_
  refine aw_iaload (ar_12_8 (by decide)) dX12_counts_171 (fun v_15 => ?_)
  refine aw_iconst 1 dX12_counts_172 (by decide) ?_
  refine aw_iadd dX12_counts_173 ?_
  refine aw_iastore (ar_12_8 (by decide)) dX12_counts_174 ?_
  refine aw_bndM (fun s_16 => ?_)
  refine aw_aload_n 0 dX12_counts_175 rfl rfl ?_
  refine aw_dup dX12_counts_176 rfl ?_
  refine aw_getf (fg_12_34 (by decide)) ci_12 (by decide) w_1490 dX12_counts_177 ?_
  refine aw_iload 9 dX12_counts_180 rfl ?_
  refine aw_iadd dX12_counts_182 ?_
  refine aw_putI (fs_12_34 (by decide)) ci_12 (by decide) rfl rfl w_1490 dX12_counts_183 ?_
  refine aw_bndM (fun s_17 => ?_)
  refine aw_iinc (ls' := [(0, .ref (ad 12 0 0)), (1, .int x1), (5, .int x5), (6, .int x6), (8, .int x8), (9, .int x9), (10, .int x10), (11, .int x11), (12, .int (x12 + 1))]) (x12 + 1) 8 [1, 2, 3, 4, 5, 6, 7, 8, 0] dX12_counts_186 rfl (by rfl) (by decide) rfl ?_
  refine aw_goto 123 dX12_counts_189 (by decide) ?_
  exact ih s_17 (x12 + 1)
def F12_counts_L123 (x1 : Int32) (x5 : Int32) (x6 : Int32) (x8 : Int32) (x9 : Int32) (x10 : Int32) (x11 : Int32) : Nat → Mem → Int32 → Option ((Unit) × Mem)
  | 0 => fun _ _ => none
  | n + 1 => fun σ x12 =>
    if x9 ≤ x12 then (some ((), σ)) else (if x12 = 0 then (F12_counts_p145 (F12_counts_L123 x1 x5 x6 x8 x9 x10 x11 n) σ x1 x5 x6 x8 x9 x10 x11 x12 x1 x5 1) else (F12_counts_p145 (F12_counts_L123 x1 x5 x6 x8 x9 x10 x11 n) σ x1 x5 x6 x8 x9 x10 x11 x12 x1 x5 (-1)))
set_option maxRecDepth 20000 in
theorem c12_counts_L123 {l : Launch} {D : va_G} {ad : Nat → Nat → Nat → Nat} {cid : Nat → Nat → Nat → ClassId} {α : Type} {emb : α → Option Value} (x1 : Int32) (x5 : Int32) (x6 : Int32) (x8 : Int32) (x9 : Int32) (x10 : Int32) (x11 : Int32) {G : Unit → Mem → Option (α × Mem)} (kx : ∀ r σ, AW (XM l D ad cid) M12_counts 4 emb [(0, .ref (ad 12 0 0)), (1, .int x1), (5, .int x5), (6, .int x6), (8, .int x8), (9, .int x9), (10, .int x10), (11, .int x11)] 192 [] σ (G r σ)) : ∀ (n : Nat) (σ : Mem) (x12 : Int32), AW (XM l D ad cid) M12_counts 4 emb [(0, .ref (ad 12 0 0)), (1, .int x1), (5, .int x5), (6, .int x6), (8, .int x8), (9, .int x9), (10, .int x10), (11, .int x11), (12, .int x12)] 123 [] σ (bd (F12_counts_L123 x1 x5 x6 x8 x9 x10 x11 n σ x12) G) := by
  intro n
  induction n with
  | zero => intros; exact aw_none
  | succ n ih =>
    intro σ x12
    refine aw_bdB ?_
    rw [F12_counts_L123.eq_2]
    refine aw_iload 8 dX12_counts_123 rfl ?_
    refine aw_iload 5 dX12_counts_125 rfl ?_
    refine aw_icmp_ge 192 dX12_counts_127 (by decide) ?_ ?_
    · refine aw_ls (ls' := [(0, .ref (ad 12 0 0)), (1, .int x1), (5, .int x5), (6, .int x6), (8, .int x8), (9, .int x9), (10, .int x10), (11, .int x11)]) [0, 1, 2, 3, 4, 5, 6, 7] rfl ?_
      exact kx () σ
    · refine aw_aload_n 0 dX12_counts_130 rfl rfl ?_
      refine aw_aload_n 0 dX12_counts_131 rfl rfl ?_
      refine aw_iload_n 1 dX12_counts_132 rfl rfl ?_
      refine aw_iload 2 dX12_counts_133 rfl ?_
      refine aw_iload 8 dX12_counts_135 rfl ?_
      refine aw_if_ne 144 dX12_counts_137 (by decide) ?_ ?_
      · refine aw_iconst (-1) dX12_counts_144 (by decide) ?_
        exact c12_counts_p145 x1 x5 x6 x8 x9 x10 x11 kx ih σ x12 x1 x5 (-1)
      · refine aw_iconst 1 dX12_counts_140 (by decide) ?_
        refine aw_goto 145 dX12_counts_141 (by decide) ?_
        exact c12_counts_p145 x1 x5 x6 x8 x9 x10 x11 kx ih σ x12 x1 x5 1
def F12_counts_L113 (x1 : Int32) (x5 : Int32) (x6 : Int32) (x8 : Int32) (x9 : Int32) (x10 : Int32) : Nat → Mem → Int32 → Option ((Unit) × Mem)
  | 0 => fun _ _ => none
  | n + 1 => fun σ x11 =>
    if x8 < x11 then (some ((), σ)) else (bd (F12_counts_L123 x1 x5 x6 x8 x9 x10 x11 fuelK σ 0) fun r_18 s_19 => (F12_counts_L113 x1 x5 x6 x8 x9 x10 n) s_19 (x11 + 1))
set_option maxRecDepth 20000 in
theorem c12_counts_L113 {l : Launch} {D : va_G} {ad : Nat → Nat → Nat → Nat} {cid : Nat → Nat → Nat → ClassId} {α : Type} {emb : α → Option Value} (x1 : Int32) (x5 : Int32) (x6 : Int32) (x8 : Int32) (x9 : Int32) (x10 : Int32) {G : Unit → Mem → Option (α × Mem)} (kx : ∀ r σ, AW (XM l D ad cid) M12_counts 4 emb [(0, .ref (ad 12 0 0)), (1, .int x1), (5, .int x5), (6, .int x6), (8, .int x8), (9, .int x9), (10, .int x10)] 198 [] σ (G r σ)) : ∀ (n : Nat) (σ : Mem) (x11 : Int32), AW (XM l D ad cid) M12_counts 4 emb [(0, .ref (ad 12 0 0)), (1, .int x1), (5, .int x5), (6, .int x6), (8, .int x8), (9, .int x9), (10, .int x10), (11, .int x11)] 113 [] σ (bd (F12_counts_L113 x1 x5 x6 x8 x9 x10 n σ x11) G) := by
  intro n
  induction n with
  | zero => intros; exact aw_none
  | succ n ih =>
    intro σ x11
    refine aw_bdB ?_
    rw [F12_counts_L113.eq_2]
    refine aw_iload 7 dX12_counts_113 rfl ?_
    refine aw_iload 4 dX12_counts_115 rfl ?_
    refine aw_icmp_gt 198 dX12_counts_117 (by decide) ?_ ?_
    · refine aw_ls (ls' := [(0, .ref (ad 12 0 0)), (1, .int x1), (5, .int x5), (6, .int x6), (8, .int x8), (9, .int x9), (10, .int x10)]) [0, 1, 2, 3, 4, 5, 6] rfl ?_
      exact kx () σ
    · refine aw_iconst 0 dX12_counts_120 (by decide) ?_
      refine aw_istore (ls' := [(0, .ref (ad 12 0 0)), (1, .int x1), (5, .int x5), (6, .int x6), (8, .int x8), (9, .int x9), (10, .int x10), (11, .int x11), (12, .int 0)]) [1, 2, 3, 4, 5, 6, 7, 8, 0] dX12_counts_121 (by decide) rfl ?_
      refine aw_assocW ?_
      refine c12_counts_L123 x1 x5 x6 x8 x9 x10 x11 (fun r_18 s_19 => ?_) fuelK σ 0
      refine aw_iinc (ls' := [(0, .ref (ad 12 0 0)), (1, .int x1), (5, .int x5), (6, .int x6), (8, .int x8), (9, .int x9), (10, .int x10), (11, .int (x11 + 1))]) (x11 + 1) 7 [1, 2, 3, 4, 5, 6, 7, 0] dX12_counts_192 rfl (by rfl) (by decide) rfl ?_
      refine aw_goto 113 dX12_counts_195 (by decide) ?_
      exact ih s_19 (x11 + 1)
def F12_counts_L101 (x1 : Int32) (x5 : Int32) (x6 : Int32) (x8 : Int32) (x9 : Int32) : Nat → Mem → Int32 → Option ((Unit) × Mem)
  | 0 => fun _ _ => none
  | n + 1 => fun σ x10 =>
    if x8 < x10 then (some ((), σ)) else (bnd (-x8) fun v_11 => bd (F12_counts_L113 x1 x5 x6 x8 x9 x10 fuelK σ v_11) fun r_20 s_21 => (F12_counts_L101 x1 x5 x6 x8 x9 n) s_21 (x10 + 1))
set_option maxRecDepth 20000 in
theorem c12_counts_L101 {l : Launch} {D : va_G} {ad : Nat → Nat → Nat → Nat} {cid : Nat → Nat → Nat → ClassId} {α : Type} {emb : α → Option Value} (x1 : Int32) (x5 : Int32) (x6 : Int32) (x8 : Int32) (x9 : Int32) {G : Unit → Mem → Option (α × Mem)} (kx : ∀ r σ, AW (XM l D ad cid) M12_counts 4 emb [] 204 [] σ (G r σ)) : ∀ (n : Nat) (σ : Mem) (x10 : Int32), AW (XM l D ad cid) M12_counts 4 emb [(0, .ref (ad 12 0 0)), (1, .int x1), (5, .int x5), (6, .int x6), (8, .int x8), (9, .int x9), (10, .int x10)] 101 [] σ (bd (F12_counts_L101 x1 x5 x6 x8 x9 n σ x10) G) := by
  intro n
  induction n with
  | zero => intros; exact aw_none
  | succ n ih =>
    intro σ x10
    refine aw_bdB ?_
    rw [F12_counts_L101.eq_2]
    refine aw_iload 6 dX12_counts_101 rfl ?_
    refine aw_iload 4 dX12_counts_103 rfl ?_
    refine aw_icmp_gt 204 dX12_counts_105 (by decide) ?_ ?_
    · refine aw_ls (ls' := []) [] rfl ?_
      exact kx () σ
    · refine aw_iload 4 dX12_counts_108 rfl ?_
      refine aw_ineg dX12_counts_110 ?_
      refine aw_bnd_int (fun v_11 => ?_)
      refine aw_istore (ls' := [(0, .ref (ad 12 0 0)), (1, .int x1), (5, .int x5), (6, .int x6), (8, .int x8), (9, .int x9), (10, .int x10), (11, .int v_11)]) [1, 2, 3, 4, 5, 6, 7, 0] dX12_counts_111 (by decide) rfl ?_
      refine aw_assocW ?_
      refine c12_counts_L113 x1 x5 x6 x8 x9 x10 (fun r_20 s_21 => ?_) fuelK σ v_11
      refine aw_iinc (ls' := [(0, .ref (ad 12 0 0)), (1, .int x1), (5, .int x5), (6, .int x6), (8, .int x8), (9, .int x9), (10, .int (x10 + 1))]) (x10 + 1) 6 [1, 2, 3, 4, 5, 6, 0] dX12_counts_198 rfl (by rfl) (by decide) rfl ?_
      refine aw_goto 101 dX12_counts_201 (by decide) ?_
      exact ih s_21 (x10 + 1)
def F12_counts_p74 (σ : Mem) (x1 : Int32) (x5 : Int32) (x6 : Int32) (x8 : Int32) (q0 : Int32) : Option (Unit × Mem) :=
  bnd (sI σ 12 0 0 33 ((((2 * x8) + 1) * ((2 * x8) + 1)) * q0)) fun s_9 => bnd (-x8) fun v_10 => bd (F12_counts_L101 x1 x5 x6 x8 q0 fuelK s_9 v_10) fun r_22 s_23 => some ((), s_23)
set_option maxRecDepth 20000 in
theorem c12_counts_p74 {l : Launch} {D : va_G} {ad : Nat → Nat → Nat → Nat} {cid : Nat → Nat → Nat → ClassId} (σ : Mem) (x1 : Int32) (x5 : Int32) (x6 : Int32) (x8 : Int32) (q0 : Int32) : AW (XM l D ad cid) M12_counts 4 eU [(0, .ref (ad 12 0 0)), (1, .int x1), (5, .int x5), (6, .int x6), (8, .int x8)] 74 [.int q0] σ ((F12_counts_p74 σ x1 x5 x6 x8 q0).bind some) := by
  unfold F12_counts_p74
  refine aw_istore (ls' := [(0, .ref (ad 12 0 0)), (1, .int x1), (5, .int x5), (6, .int x6), (8, .int x8), (9, .int q0)]) [1, 2, 3, 4, 5, 0] dX12_counts_74 (by decide) rfl ?_
  refine aw_aload_n 0 dX12_counts_76 rfl rfl ?_
  refine aw_iconst 2 dX12_counts_77 (by decide) ?_
  refine aw_iload 4 dX12_counts_78 rfl ?_
  refine aw_imul dX12_counts_80 ?_
  refine aw_iconst 1 dX12_counts_81 (by decide) ?_
  refine aw_iadd dX12_counts_82 ?_
  refine aw_iconst 2 dX12_counts_83 (by decide) ?_
  refine aw_iload 4 dX12_counts_84 rfl ?_
  refine aw_imul dX12_counts_86 ?_
  refine aw_iconst 1 dX12_counts_87 (by decide) ?_
  refine aw_iadd dX12_counts_88 ?_
  refine aw_imul dX12_counts_89 ?_
  refine aw_iload 5 dX12_counts_90 rfl ?_
  refine aw_imul dX12_counts_92 ?_
  refine aw_putI (fs_12_33 (by decide)) ci_12 (by decide) rfl rfl w_1489 dX12_counts_93 ?_
  refine aw_bndM (fun s_9 => ?_)
  refine aw_iload 4 dX12_counts_96 rfl ?_
  refine aw_ineg dX12_counts_98 ?_
  refine aw_bnd_int (fun v_10 => ?_)
  refine aw_istore (ls' := [(0, .ref (ad 12 0 0)), (1, .int x1), (5, .int x5), (6, .int x6), (8, .int x8), (9, .int q0), (10, .int v_10)]) [1, 2, 3, 4, 5, 6, 0] dX12_counts_99 (by decide) rfl ?_
  refine aw_assocW ?_
  refine c12_counts_L101 x1 x5 x6 x8 q0 (fun r_22 s_23 => ?_) fuelK s_9 v_10
  exact aw_return rfl dX12_counts_204
def F12_counts (σ : Mem) (x1 : Int32) (x2 : Int32) (x3 : Int32) (x4 : Int32) (x5 : Int32) (x6 : Int32) (x7 : Int32) : Option (Unit × Mem) :=
  bd (F12_counts_L3 x1 x2 x3 x4 x5 x6 x7 fuelK σ 0) fun r_2 s_3 => bnd (sI s_3 12 0 0 33 1) fun s_4 => bnd (sI s_4 12 0 0 34 0) fun s_5 => bd (F12_flies s_5 x2 x3 x7) fun v_6 s_7 => if v_6 = true then ((F12_handOf s_7 x1 x4).bind fun v_8 => if (gI s_7 12 0 0 31) ≤ 0 then (F12_counts_p74 s_7 x1 x5 x6 v_8 1) else (F12_counts_p74 s_7 x1 x5 x6 v_8 2)) else (chk 21 0 <| bnd (sI s_7 12 0 8 (Int32.toNatClampNeg 0) 1) fun s_24 => some ((), s_24))
set_option maxRecDepth 20000 in
theorem c12_counts {l : Launch} {D : va_G} {ad : Nat → Nat → Nat → Nat} {cid : Nat → Nat → Nat → ClassId} (σ : Mem) (x1 : Int32) (x2 : Int32) (x3 : Int32) (x4 : Int32) (x5 : Int32) (x6 : Int32) (x7 : Int32) : AMF (XM l D ad cid) M12_counts 4 eU [.ref (ad 12 0 0), .int x1, .int x2, .int x3, .int x4, .int x5, .int x6, .int x7] σ (F12_counts σ x1 x2 x3 x4 x5 x6 x7) := by
  refine AM.ofW (by decide +kernel) (Nat.le_of_ble_eq_true rfl) (ls := [(0, .ref (ad 12 0 0)), (1, .int x1), (2, .int x2), (3, .int x3), (4, .int x4), (5, .int x5), (6, .int x6), (7, .int x7)]) rfl ?_
  refine aw_entry ?_
  unfold F12_counts
  refine aw_iconst 0 dX12_counts_0 (by decide) ?_
  refine aw_istore (ls' := [(0, .ref (ad 12 0 0)), (1, .int x1), (2, .int x2), (3, .int x3), (4, .int x4), (5, .int x5), (6, .int x6), (7, .int x7), (8, .int 0)]) [1, 2, 3, 4, 5, 6, 7, 8, 0] dX12_counts_1 (by decide) rfl ?_
  refine aw_assocW ?_
  refine c12_counts_L3 x1 x2 x3 x4 x5 x6 x7 (fun r_2 s_3 => ?_) fuelK σ 0
  refine aw_aload_n 0 dX12_counts_24 rfl rfl ?_
  refine aw_iconst 1 dX12_counts_25 (by decide) ?_
  refine aw_putI (fs_12_33 (by decide)) ci_12 (by decide) rfl rfl w_1489 dX12_counts_26 ?_
  refine aw_bndM (fun s_4 => ?_)
  refine aw_aload_n 0 dX12_counts_29 rfl rfl ?_
  refine aw_iconst 0 dX12_counts_30 (by decide) ?_
  refine aw_putI (fs_12_34 (by decide)) ci_12 (by decide) rfl rfl w_1490 dX12_counts_31 ?_
  refine aw_bndM (fun s_5 => ?_)
  refine aw_aload_n 0 dX12_counts_34 rfl rfl ?_
  refine aw_iload_n 2 dX12_counts_35 rfl rfl ?_
  refine aw_iload_n 3 dX12_counts_36 rfl rfl ?_
  refine aw_iload 7 dX12_counts_37 rfl ?_
  refine aw_callVW_B (c12_flies s_5 x2 x3 x7) (io_12 (by decide)) ci_12 (by decide) mk_12_flies w_1982 w_109 w_1980 rfl rfl (Nat.le_of_ble_eq_true rfl) dX12_counts_39 (fun v_6 s_7 => ?_)
  refine aw_bif_ne 53 dX12_counts_42 (by decide) ?_ ?_
  · refine aw_aload_n 0 dX12_counts_53 rfl rfl ?_
    refine aw_iload_n 1 dX12_counts_54 rfl rfl ?_
    refine aw_iload 4 dX12_counts_55 rfl ?_
    refine aw_callVO_I (c12_handOf s_7 x1 x4) (io_12 (by decide)) ci_12 (by decide) mk_12_handOf w_2033 w_114 w_2031 rfl rfl (Nat.le_of_ble_eq_true rfl) dX12_counts_57 (fun v_8 => ?_)
    refine aw_istore (ls' := [(0, .ref (ad 12 0 0)), (1, .int x1), (5, .int x5), (6, .int x6), (8, .int v_8)]) [1, 2, 6, 7, 0] dX12_counts_60 (by decide) rfl ?_
    refine aw_aload_n 0 dX12_counts_62 rfl rfl ?_
    refine aw_getf (fg_12_31 (by decide)) ci_12 (by decide) w_1487 dX12_counts_63 ?_
    refine aw_if_le 73 dX12_counts_66 (by decide) ?_ ?_
    · refine aw_iconst 1 dX12_counts_73 (by decide) ?_
      exact c12_counts_p74 s_7 x1 x5 x6 v_8 1
    · refine aw_iconst 2 dX12_counts_69 (by decide) ?_
      refine aw_goto 74 dX12_counts_70 (by decide) ?_
      exact c12_counts_p74 s_7 x1 x5 x6 v_8 2
  · refine aw_aload_n 0 dX12_counts_45 rfl rfl ?_
    refine aw_getf (fg_12_32 (by decide)) ci_12 (by decide) w_1488 dX12_counts_46 ?_
    refine aw_iconst 0 dX12_counts_49 (by decide) ?_
    refine aw_iconst 1 dX12_counts_50 (by decide) ?_
    refine aw_iastore (ar_12_8 (by decide)) dX12_counts_51 ?_
    refine aw_bndM (fun s_24 => ?_)
    exact aw_return rfl dX12_counts_52
def F12_fraction_L9 (σ : Mem) (y1 : Int64) (y3 : Int64) : Nat → Int64 → Int64 → Option (Int64)
  | 0 => fun _ _ => none
  | n + 1 => fun y5 y7 =>
    if y7 = 0 then (some y5) else (if y7 = 0 then none else bnd (lRem y5 y7) fun v_2 => (F12_fraction_L9 σ y1 y3 n) y7 v_2)
set_option maxRecDepth 20000 in
theorem c12_fraction_L9 {l : Launch} {D : va_G} {ad : Nat → Nat → Nat → Nat} {cid : Nat → Nat → Nat → ClassId} {α : Type} {emb : α → Option Value} (σ : Mem) (y1 : Int64) (y3 : Int64) {G : Int64 → Option (α × Mem)} (kx : ∀ r, AW (XM l D ad cid) M12_fraction 0 emb [(0, .ref (ad 12 0 0)), (1, .long y1), (3, .long y3), (5, .long r)] 34 [] σ (G r)) : ∀ (n : Nat) (y5 : Int64) (y7 : Int64), AW (XM l D ad cid) M12_fraction 0 emb [(0, .ref (ad 12 0 0)), (1, .long y1), (3, .long y3), (5, .long y5), (7, .long y7)] 9 [] σ ((F12_fraction_L9 σ y1 y3 n y5 y7).bind G) := by
  intro n
  induction n with
  | zero => intros; exact aw_none
  | succ n ih =>
    intro y5 y7
    rw [F12_fraction_L9.eq_2]
    refine aw_lload 4 dX12_fraction_9 rfl ?_
    refine aw_lconst 0 dX12_fraction_11 (by decide) ?_
    refine aw_lcmp dX12_fraction_12 ?_
    refine aw_lif_eq 34 dX12_fraction_13 (by decide) ?_ ?_
    · refine aw_ls (ls' := [(0, .ref (ad 12 0 0)), (1, .long y1), (3, .long y3), (5, .long y5)]) [0, 1, 2, 3] rfl ?_
      exact kx y5
    · refine aw_lload 3 dX12_fraction_16 rfl ?_
      refine aw_lload 4 dX12_fraction_18 rfl ?_
      refine aw_lrem dX12_fraction_20 ?_
      refine aw_bnd_long (fun v_2 => ?_)
      refine aw_lstore (ls' := [(0, .ref (ad 12 0 0)), (1, .long y1), (3, .long y3), (7, .long y7), (9, .long v_2)]) [1, 2, 3, 5, 0] dX12_fraction_21 (by decide) rfl ?_
      refine aw_lload 3 dX12_fraction_23 rfl ?_
      refine aw_lstore (ls' := [(0, .ref (ad 12 0 0)), (1, .long y1), (3, .long y3), (5, .long y7), (9, .long v_2)]) [1, 2, 3, 0, 5] dX12_fraction_25 (by decide) rfl ?_
      refine aw_lload 4 dX12_fraction_27 rfl ?_
      refine aw_lstore (ls' := [(0, .ref (ad 12 0 0)), (1, .long y1), (3, .long y3), (5, .long y7), (7, .long v_2)]) [1, 2, 3, 4, 0] dX12_fraction_29 (by decide) rfl ?_
      refine aw_goto 9 dX12_fraction_31 (by decide) ?_
      exact ih y7 v_2
def F12_fraction (σ : Mem) (y1 : Int64) (y3 : Int64) : Option (Bool × Mem) :=
  bnd (lAbs y1) fun v_1 => (F12_fraction_L9 σ y1 y3 fuelK v_1 y3).bind fun r_3 => if r_3 = 0 then none else bnd (sL σ 12 0 0 2 (y1 / r_3)) fun s_4 => if r_3 = 0 then none else bnd (sL s_4 12 0 0 3 (y3 / r_3)) fun s_5 => some (true, s_5)
set_option maxRecDepth 20000 in
theorem c12_fraction {l : Launch} {D : va_G} {ad : Nat → Nat → Nat → Nat} {cid : Nat → Nat → Nat → ClassId} (σ : Mem) (y1 : Int64) (y3 : Int64) : AMF (XM l D ad cid) M12_fraction 0 eB [.ref (ad 12 0 0), .long y1, .long y3] σ (F12_fraction σ y1 y3) := by
  refine AM.ofW (by decide +kernel) (Nat.le_of_ble_eq_true rfl) (ls := [(0, .ref (ad 12 0 0)), (1, .long y1), (3, .long y3)]) rfl ?_
  refine aw_entry ?_
  unfold F12_fraction
  refine aw_lload_n 1 dX12_fraction_0 rfl rfl ?_
  refine aw_labs w_2052 w_1176 w_159 w_1177 (Nat.le_of_ble_eq_true rfl) dX12_fraction_1 ?_
  refine aw_bnd_long (fun v_1 => ?_)
  refine aw_lstore (ls' := [(0, .ref (ad 12 0 0)), (1, .long y1), (3, .long y3), (5, .long v_1)]) [1, 2, 3, 0] dX12_fraction_4 (by decide) rfl ?_
  refine aw_lload_n 2 dX12_fraction_6 rfl rfl ?_
  refine aw_lstore (ls' := [(0, .ref (ad 12 0 0)), (1, .long y1), (3, .long y3), (5, .long v_1), (7, .long y3)]) [1, 2, 3, 4, 0] dX12_fraction_7 (by decide) rfl ?_
  refine aw_assoc ?_
  refine c12_fraction_L9 σ y1 y3 (fun r_3 => ?_) fuelK v_1 y3
  refine aw_aload_n 0 dX12_fraction_34 rfl rfl ?_
  refine aw_lload_n 1 dX12_fraction_35 rfl rfl ?_
  refine aw_lload 3 dX12_fraction_36 rfl ?_
  refine aw_ldiv dX12_fraction_38 ?_
  refine aw_putL (fs_12_2 (by decide)) ci_12 (by decide) rfl rfl w_1458 dX12_fraction_39 ?_
  refine aw_bndM (fun s_4 => ?_)
  refine aw_aload_n 0 dX12_fraction_42 rfl rfl ?_
  refine aw_lload_n 2 dX12_fraction_43 rfl rfl ?_
  refine aw_lload 3 dX12_fraction_44 rfl ?_
  refine aw_ldiv dX12_fraction_46 ?_
  refine aw_putL (fs_12_3 (by decide)) ci_12 (by decide) rfl rfl w_1459 dX12_fraction_47 ?_
  refine aw_bndM (fun s_5 => ?_)
  refine aw_iconst 1 dX12_fraction_50 (by decide) ?_
  exact aw_zreturn (b := true) rfl rfl dX12_fraction_51
def F12_odds_L110 (σ : Mem)  : Nat → Int32 → Int32 → Option (Int32)
  | 0 => fun _ _ => none
  | n + 1 => fun x8 x9 =>
    if 21 ≤ x9 then (some x8) else ((ald 21 (gI σ 12 0 8) x9).bind fun v_13 => bnd (x8 + v_13) fun v_14 => (F12_odds_L110 σ n) v_14 (x9 + 1))
set_option maxRecDepth 20000 in
theorem c12_odds_L110 {l : Launch} {D : va_G} {ad : Nat → Nat → Nat → Nat} {cid : Nat → Nat → Nat → ClassId} {α : Type} {emb : α → Option Value} (σ : Mem)  {G : Int32 → Option (α × Mem)} (kx : ∀ r, AW (XM l D ad cid) M12_odds 5 emb [(0, .ref (ad 12 0 0)), (8, .int r)] 135 [] σ (G r)) : ∀ (n : Nat) (x8 : Int32) (x9 : Int32), AW (XM l D ad cid) M12_odds 5 emb [(0, .ref (ad 12 0 0)), (8, .int x8), (9, .int x9)] 110 [] σ ((F12_odds_L110 σ  n x8 x9).bind G) := by
  intro n
  induction n with
  | zero => intros; exact aw_none
  | succ n ih =>
    intro x8 x9
    rw [F12_odds_L110.eq_2]
    refine aw_iload 2 dX12_odds_110 rfl ?_
    refine aw_bipush 21 dX12_odds_112 (by decide) ?_
    refine aw_icmp_ge 135 dX12_odds_114 (by decide) ?_ ?_
    · refine aw_ls (ls' := [(0, .ref (ad 12 0 0)), (8, .int x8)]) [0, 1] rfl ?_
      exact kx x8
    · refine aw_iload 1 dX12_odds_117 rfl ?_
      refine aw_aload_n 0 dX12_odds_119 rfl rfl ?_
      refine aw_getf (fg_12_32 (by decide)) ci_12 (by decide) w_1488 dX12_odds_120 ?_
      refine aw_iload 2 dX12_odds_123 rfl ?_
      refine aw_iaload (ar_12_8 (by decide)) dX12_odds_125 (fun v_13 => ?_)
      refine aw_iadd dX12_odds_126 ?_
      refine aw_bnd_int (fun v_14 => ?_)
      refine aw_istore (ls' := [(0, .ref (ad 12 0 0)), (8, .int v_14), (9, .int x9)]) [1, 0, 2] dX12_odds_127 (by decide) rfl ?_
      refine aw_iinc (ls' := [(0, .ref (ad 12 0 0)), (8, .int v_14), (9, .int (x9 + 1))]) (x9 + 1) 2 [1, 2, 0] dX12_odds_129 rfl (by rfl) (by decide) rfl ?_
      refine aw_goto 110 dX12_odds_132 (by decide) ?_
      exact ih v_14 (x9 + 1)
def F12_odds (σ : Mem) (x1 : Int32) (x2 : Int32) (x3 : Int32) (x4 : Int32) (x5 : Int32) (x6 : Int32) (x7 : Int32) : Option (Bool × Mem) :=
  bnd (sI σ 12 0 0 1 0) fun s_1 => bnd (sI s_1 12 0 0 0 0) fun s_2 => (F12_isShot s_2 x1 x2).bind fun v_3 => if v_3 = true then ((ald 3000 (gI s_2 12 0 5) (53 + x1)).bind fun v_4 => if (F12_isPuffing x3 v_4) = true then (if (F12_isIn (Int32.toInt64 x4) 0 3) = true then (if (F12_isAim x5 x6) = true then (if (F12_isIn (Int32.toInt64 x7) 1 20) = true then ((ald 3000 (gI s_2 12 0 5) 7).bind fun v_11 => bd (F12_counts s_2 x1 x2 x3 x4 x5 x6 v_11) fun _ s_12 => (F12_odds_L110 s_12  fuelK 0 x7).bind fun r_15 => bd (F12_fraction s_12 (Int32.toInt64 r_15) (Int32.toInt64 (gI s_12 12 0 0 33))) fun v_16 s_17 => some (v_16, s_17)) else (bd (F12_no s_2 5) fun v_18 s_19 => some (v_18, s_19))) else (bd (F12_no s_2 5) fun v_9 s_10 => some (v_9, s_10))) else (bd (F12_no s_2 5) fun v_7 s_8 => some (v_7, s_8))) else (bd (F12_no s_2 5) fun v_5 s_6 => some (v_5, s_6))) else (bd (F12_no s_2 2) fun v_20 s_21 => some (v_20, s_21))
set_option maxRecDepth 20000 in
theorem c12_odds {l : Launch} {D : va_G} {ad : Nat → Nat → Nat → Nat} {cid : Nat → Nat → Nat → ClassId} (σ : Mem) (x1 : Int32) (x2 : Int32) (x3 : Int32) (x4 : Int32) (x5 : Int32) (x6 : Int32) (x7 : Int32) : AMF (XM l D ad cid) M12_odds 5 eB [.ref (ad 12 0 0), .int x1, .int x2, .int x3, .int x4, .int x5, .int x6, .int x7] σ (F12_odds σ x1 x2 x3 x4 x5 x6 x7) := by
  refine AM.ofW (by decide +kernel) (Nat.le_of_ble_eq_true rfl) (ls := [(0, .ref (ad 12 0 0)), (1, .int x1), (2, .int x2), (3, .int x3), (4, .int x4), (5, .int x5), (6, .int x6), (7, .int x7)]) rfl ?_
  refine aw_entry ?_
  unfold F12_odds
  refine aw_aload_n 0 dX12_odds_0 rfl rfl ?_
  refine aw_iconst 0 dX12_odds_1 (by decide) ?_
  refine aw_putI (fs_12_1 (by decide)) ci_12 (by decide) rfl rfl w_1457 dX12_odds_2 ?_
  refine aw_bndM (fun s_1 => ?_)
  refine aw_aload_n 0 dX12_odds_5 rfl rfl ?_
  refine aw_iconst 0 dX12_odds_6 (by decide) ?_
  refine aw_putI (fs_12_0 (by decide)) ci_12 (by decide) rfl rfl w_1456 dX12_odds_7 ?_
  refine aw_bndM (fun s_2 => ?_)
  refine aw_aload_n 0 dX12_odds_10 rfl rfl ?_
  refine aw_iload_n 1 dX12_odds_11 rfl rfl ?_
  refine aw_iload_n 2 dX12_odds_12 rfl rfl ?_
  refine aw_callVO_B (c12_isShot s_2 x1 x2) (io_12 (by decide)) ci_12 (by decide) mk_12_isShot w_2042 w_115 w_2040 rfl rfl (Nat.le_of_ble_eq_true rfl) dX12_odds_13 (fun v_3 => ?_)
  refine aw_bif_ne 25 dX12_odds_16 (by decide) ?_ ?_
  · refine aw_iload_n 3 dX12_odds_25 rfl rfl ?_
    refine aw_aload_n 0 dX12_odds_26 rfl rfl ?_
    refine aw_getf (fg_12_20 (by decide)) ci_12 (by decide) w_1476 dX12_odds_27 ?_
    refine aw_bipush 53 dX12_odds_30 (by decide) ?_
    refine aw_iload_n 1 dX12_odds_32 rfl rfl ?_
    refine aw_iadd dX12_odds_33 ?_
    refine aw_iaload (ar_12_5 (by decide)) dX12_odds_34 (fun v_4 => ?_)
    refine aw_callST_B (c12_isPuffing s_2 x3 v_4) (by decide) mk_12_isPuffing w_1961 w_1960 rfl rfl (Nat.le_of_ble_eq_true rfl) dX12_odds_35 ?_
    refine aw_bif_eq 77 dX12_odds_38 (by decide) ?_ ?_
    · refine aw_aload_n 0 dX12_odds_77 rfl rfl ?_
      refine aw_iconst 5 dX12_odds_78 (by decide) ?_
      refine aw_callVW_B (c12_no s_2 5) (io_12 (by decide)) ci_12 (by decide) mk_12_no w_1658 w_49 w_1656 rfl rfl (Nat.le_of_ble_eq_true rfl) dX12_odds_79 (fun v_5 s_6 => ?_)
      exact aw_zreturn (b := v_5) rfl rfl dX12_odds_82
    · refine aw_iload 4 dX12_odds_41 rfl ?_
      refine aw_i2l dX12_odds_43 ?_
      refine aw_lconst 0 dX12_odds_44 (by decide) ?_
      refine aw_ldc2 w_1979 dX12_odds_45 ?_
      refine aw_callST_B (c12_isIn s_2 (Int32.toInt64 x4) 0 3) (by decide) mk_12_isIn w_1752 w_1751 rfl rfl (Nat.le_of_ble_eq_true rfl) dX12_odds_48 ?_
      refine aw_bif_eq 77 dX12_odds_51 (by decide) ?_ ?_
      · refine aw_aload_n 0 dX12_odds_77 rfl rfl ?_
        refine aw_iconst 5 dX12_odds_78 (by decide) ?_
        refine aw_callVW_B (c12_no s_2 5) (io_12 (by decide)) ci_12 (by decide) mk_12_no w_1658 w_49 w_1656 rfl rfl (Nat.le_of_ble_eq_true rfl) dX12_odds_79 (fun v_7 s_8 => ?_)
        exact aw_zreturn (b := v_7) rfl rfl dX12_odds_82
      · refine aw_iload 5 dX12_odds_54 rfl ?_
        refine aw_iload 6 dX12_odds_56 rfl ?_
        refine aw_callST_B (c12_isAim s_2 x5 x6) (by decide) mk_12_isAim w_1994 w_1993 rfl rfl (Nat.le_of_ble_eq_true rfl) dX12_odds_58 ?_
        refine aw_bif_eq 77 dX12_odds_61 (by decide) ?_ ?_
        · refine aw_aload_n 0 dX12_odds_77 rfl rfl ?_
          refine aw_iconst 5 dX12_odds_78 (by decide) ?_
          refine aw_callVW_B (c12_no s_2 5) (io_12 (by decide)) ci_12 (by decide) mk_12_no w_1658 w_49 w_1656 rfl rfl (Nat.le_of_ble_eq_true rfl) dX12_odds_79 (fun v_9 s_10 => ?_)
          exact aw_zreturn (b := v_9) rfl rfl dX12_odds_82
        · refine aw_iload 7 dX12_odds_64 rfl ?_
          refine aw_i2l dX12_odds_66 ?_
          refine aw_lconst 1 dX12_odds_67 (by decide) ?_
          refine aw_ldc2 w_1966 dX12_odds_68 ?_
          refine aw_callST_B (c12_isIn s_2 (Int32.toInt64 x7) 1 20) (by decide) mk_12_isIn w_1752 w_1751 rfl rfl (Nat.le_of_ble_eq_true rfl) dX12_odds_71 ?_
          refine aw_bif_ne 83 dX12_odds_74 (by decide) ?_ ?_
          · refine aw_aload_n 0 dX12_odds_83 rfl rfl ?_
            refine aw_iload_n 1 dX12_odds_84 rfl rfl ?_
            refine aw_iload_n 2 dX12_odds_85 rfl rfl ?_
            refine aw_iload_n 3 dX12_odds_86 rfl rfl ?_
            refine aw_iload 4 dX12_odds_87 rfl ?_
            refine aw_iload 5 dX12_odds_89 rfl ?_
            refine aw_iload 6 dX12_odds_91 rfl ?_
            refine aw_aload_n 0 dX12_odds_93 rfl rfl ?_
            refine aw_getf (fg_12_20 (by decide)) ci_12 (by decide) w_1476 dX12_odds_94 ?_
            refine aw_bipush 7 dX12_odds_97 (by decide) ?_
            refine aw_iaload (ar_12_5 (by decide)) dX12_odds_99 (fun v_11 => ?_)
            refine aw_callVW_U (c12_counts s_2 x1 x2 x3 x4 x5 x6 v_11) (io_12 (by decide)) ci_12 (by decide) mk_12_counts w_2046 w_116 w_2044 rfl rfl (Nat.le_of_ble_eq_true rfl) dX12_odds_100 (fun _ s_12 => ?_)
            refine aw_iconst 0 dX12_odds_103 (by decide) ?_
            refine aw_istore (ls' := [(0, .ref (ad 12 0 0)), (7, .int x7), (8, .int 0)]) [1, 8, 0] dX12_odds_104 (by decide) rfl ?_
            refine aw_iload 1 dX12_odds_106 rfl ?_
            refine aw_istore (ls' := [(0, .ref (ad 12 0 0)), (8, .int 0), (9, .int x7)]) [1, 3, 0] dX12_odds_108 (by decide) rfl ?_
            refine aw_assoc ?_
            refine c12_odds_L110 s_12  (fun r_15 => ?_) fuelK 0 x7
            refine aw_aload_n 0 dX12_odds_135 rfl rfl ?_
            refine aw_iload 1 dX12_odds_136 rfl ?_
            refine aw_i2l dX12_odds_138 ?_
            refine aw_aload_n 0 dX12_odds_139 rfl rfl ?_
            refine aw_getf (fg_12_33 (by decide)) ci_12 (by decide) w_1489 dX12_odds_140 ?_
            refine aw_i2l dX12_odds_143 ?_
            refine aw_callVW_B (c12_fraction s_12 (Int32.toInt64 r_15) (Int32.toInt64 (gI s_12 12 0 0 33))) (io_12 (by decide)) ci_12 (by decide) mk_12_fraction w_2050 w_117 w_2048 rfl rfl (Nat.le_of_ble_eq_true rfl) dX12_odds_144 (fun v_16 s_17 => ?_)
            exact aw_zreturn (b := v_16) rfl rfl dX12_odds_147
          · refine aw_aload_n 0 dX12_odds_77 rfl rfl ?_
            refine aw_iconst 5 dX12_odds_78 (by decide) ?_
            refine aw_callVW_B (c12_no s_2 5) (io_12 (by decide)) ci_12 (by decide) mk_12_no w_1658 w_49 w_1656 rfl rfl (Nat.le_of_ble_eq_true rfl) dX12_odds_79 (fun v_18 s_19 => ?_)
            exact aw_zreturn (b := v_18) rfl rfl dX12_odds_82
  · refine aw_aload_n 0 dX12_odds_19 rfl rfl ?_
    refine aw_iconst 2 dX12_odds_20 (by decide) ?_
    refine aw_callVW_B (c12_no s_2 2) (io_12 (by decide)) ci_12 (by decide) mk_12_no w_1658 w_49 w_1656 rfl rfl (Nat.le_of_ble_eq_true rfl) dX12_odds_21 (fun v_20 s_21 => ?_)
    exact aw_zreturn (b := v_20) rfl rfl dX12_odds_24
def F12_mean (σ : Mem) (x1 : Int32) (x2 : Int32) (x3 : Int32) (x4 : Int32) (x5 : Int32) (x6 : Int32) : Option (Bool × Mem) :=
  bnd (sI σ 12 0 0 1 0) fun s_1 => bnd (sI s_1 12 0 0 0 0) fun s_2 => (F12_isShot s_2 x1 x2).bind fun v_3 => if v_3 = true then ((ald 3000 (gI s_2 12 0 5) (53 + x1)).bind fun v_4 => if (F12_isPuffing x3 v_4) = true then (if (F12_isIn (Int32.toInt64 x4) 0 3) = true then (if (F12_isAim x5 x6) = true then ((ald 3000 (gI s_2 12 0 5) 7).bind fun v_9 => bd (F12_counts s_2 x1 x2 x3 x4 x5 x6 v_9) fun _ s_10 => bd (F12_fraction s_10 (Int32.toInt64 (gI s_10 12 0 0 34)) (Int32.toInt64 (gI s_10 12 0 0 33))) fun v_11 s_12 => some (v_11, s_12)) else (bd (F12_no s_2 5) fun v_13 s_14 => some (v_13, s_14))) else (bd (F12_no s_2 5) fun v_7 s_8 => some (v_7, s_8))) else (bd (F12_no s_2 5) fun v_5 s_6 => some (v_5, s_6))) else (bd (F12_no s_2 2) fun v_15 s_16 => some (v_15, s_16))
set_option maxRecDepth 20000 in
theorem c12_mean {l : Launch} {D : va_G} {ad : Nat → Nat → Nat → Nat} {cid : Nat → Nat → Nat → ClassId} (σ : Mem) (x1 : Int32) (x2 : Int32) (x3 : Int32) (x4 : Int32) (x5 : Int32) (x6 : Int32) : AMF (XM l D ad cid) M12_mean 5 eB [.ref (ad 12 0 0), .int x1, .int x2, .int x3, .int x4, .int x5, .int x6] σ (F12_mean σ x1 x2 x3 x4 x5 x6) := by
  refine AM.ofW (by decide +kernel) (Nat.le_of_ble_eq_true rfl) (ls := [(0, .ref (ad 12 0 0)), (1, .int x1), (2, .int x2), (3, .int x3), (4, .int x4), (5, .int x5), (6, .int x6)]) rfl ?_
  refine aw_entry ?_
  unfold F12_mean
  refine aw_aload_n 0 dX12_mean_0 rfl rfl ?_
  refine aw_iconst 0 dX12_mean_1 (by decide) ?_
  refine aw_putI (fs_12_1 (by decide)) ci_12 (by decide) rfl rfl w_1457 dX12_mean_2 ?_
  refine aw_bndM (fun s_1 => ?_)
  refine aw_aload_n 0 dX12_mean_5 rfl rfl ?_
  refine aw_iconst 0 dX12_mean_6 (by decide) ?_
  refine aw_putI (fs_12_0 (by decide)) ci_12 (by decide) rfl rfl w_1456 dX12_mean_7 ?_
  refine aw_bndM (fun s_2 => ?_)
  refine aw_aload_n 0 dX12_mean_10 rfl rfl ?_
  refine aw_iload_n 1 dX12_mean_11 rfl rfl ?_
  refine aw_iload_n 2 dX12_mean_12 rfl rfl ?_
  refine aw_callVO_B (c12_isShot s_2 x1 x2) (io_12 (by decide)) ci_12 (by decide) mk_12_isShot w_2042 w_115 w_2040 rfl rfl (Nat.le_of_ble_eq_true rfl) dX12_mean_13 (fun v_3 => ?_)
  refine aw_bif_ne 25 dX12_mean_16 (by decide) ?_ ?_
  · refine aw_iload_n 3 dX12_mean_25 rfl rfl ?_
    refine aw_aload_n 0 dX12_mean_26 rfl rfl ?_
    refine aw_getf (fg_12_20 (by decide)) ci_12 (by decide) w_1476 dX12_mean_27 ?_
    refine aw_bipush 53 dX12_mean_30 (by decide) ?_
    refine aw_iload_n 1 dX12_mean_32 rfl rfl ?_
    refine aw_iadd dX12_mean_33 ?_
    refine aw_iaload (ar_12_5 (by decide)) dX12_mean_34 (fun v_4 => ?_)
    refine aw_callST_B (c12_isPuffing s_2 x3 v_4) (by decide) mk_12_isPuffing w_1961 w_1960 rfl rfl (Nat.le_of_ble_eq_true rfl) dX12_mean_35 ?_
    refine aw_bif_eq 64 dX12_mean_38 (by decide) ?_ ?_
    · refine aw_aload_n 0 dX12_mean_64 rfl rfl ?_
      refine aw_iconst 5 dX12_mean_65 (by decide) ?_
      refine aw_callVW_B (c12_no s_2 5) (io_12 (by decide)) ci_12 (by decide) mk_12_no w_1658 w_49 w_1656 rfl rfl (Nat.le_of_ble_eq_true rfl) dX12_mean_66 (fun v_5 s_6 => ?_)
      exact aw_zreturn (b := v_5) rfl rfl dX12_mean_69
    · refine aw_iload 4 dX12_mean_41 rfl ?_
      refine aw_i2l dX12_mean_43 ?_
      refine aw_lconst 0 dX12_mean_44 (by decide) ?_
      refine aw_ldc2 w_1979 dX12_mean_45 ?_
      refine aw_callST_B (c12_isIn s_2 (Int32.toInt64 x4) 0 3) (by decide) mk_12_isIn w_1752 w_1751 rfl rfl (Nat.le_of_ble_eq_true rfl) dX12_mean_48 ?_
      refine aw_bif_eq 64 dX12_mean_51 (by decide) ?_ ?_
      · refine aw_aload_n 0 dX12_mean_64 rfl rfl ?_
        refine aw_iconst 5 dX12_mean_65 (by decide) ?_
        refine aw_callVW_B (c12_no s_2 5) (io_12 (by decide)) ci_12 (by decide) mk_12_no w_1658 w_49 w_1656 rfl rfl (Nat.le_of_ble_eq_true rfl) dX12_mean_66 (fun v_7 s_8 => ?_)
        exact aw_zreturn (b := v_7) rfl rfl dX12_mean_69
      · refine aw_iload 5 dX12_mean_54 rfl ?_
        refine aw_iload 6 dX12_mean_56 rfl ?_
        refine aw_callST_B (c12_isAim s_2 x5 x6) (by decide) mk_12_isAim w_1994 w_1993 rfl rfl (Nat.le_of_ble_eq_true rfl) dX12_mean_58 ?_
        refine aw_bif_ne 70 dX12_mean_61 (by decide) ?_ ?_
        · refine aw_aload_n 0 dX12_mean_70 rfl rfl ?_
          refine aw_iload_n 1 dX12_mean_71 rfl rfl ?_
          refine aw_iload_n 2 dX12_mean_72 rfl rfl ?_
          refine aw_iload_n 3 dX12_mean_73 rfl rfl ?_
          refine aw_iload 4 dX12_mean_74 rfl ?_
          refine aw_iload 5 dX12_mean_76 rfl ?_
          refine aw_iload 6 dX12_mean_78 rfl ?_
          refine aw_aload_n 0 dX12_mean_80 rfl rfl ?_
          refine aw_getf (fg_12_20 (by decide)) ci_12 (by decide) w_1476 dX12_mean_81 ?_
          refine aw_bipush 7 dX12_mean_84 (by decide) ?_
          refine aw_iaload (ar_12_5 (by decide)) dX12_mean_86 (fun v_9 => ?_)
          refine aw_callVW_U (c12_counts s_2 x1 x2 x3 x4 x5 x6 v_9) (io_12 (by decide)) ci_12 (by decide) mk_12_counts w_2046 w_116 w_2044 rfl rfl (Nat.le_of_ble_eq_true rfl) dX12_mean_87 (fun _ s_10 => ?_)
          refine aw_aload_n 0 dX12_mean_90 rfl rfl ?_
          refine aw_aload_n 0 dX12_mean_91 rfl rfl ?_
          refine aw_getf (fg_12_34 (by decide)) ci_12 (by decide) w_1490 dX12_mean_92 ?_
          refine aw_i2l dX12_mean_95 ?_
          refine aw_aload_n 0 dX12_mean_96 rfl rfl ?_
          refine aw_getf (fg_12_33 (by decide)) ci_12 (by decide) w_1489 dX12_mean_97 ?_
          refine aw_i2l dX12_mean_100 ?_
          refine aw_callVW_B (c12_fraction s_10 (Int32.toInt64 (gI s_10 12 0 0 34)) (Int32.toInt64 (gI s_10 12 0 0 33))) (io_12 (by decide)) ci_12 (by decide) mk_12_fraction w_2050 w_117 w_2048 rfl rfl (Nat.le_of_ble_eq_true rfl) dX12_mean_101 (fun v_11 s_12 => ?_)
          exact aw_zreturn (b := v_11) rfl rfl dX12_mean_104
        · refine aw_aload_n 0 dX12_mean_64 rfl rfl ?_
          refine aw_iconst 5 dX12_mean_65 (by decide) ?_
          refine aw_callVW_B (c12_no s_2 5) (io_12 (by decide)) ci_12 (by decide) mk_12_no w_1658 w_49 w_1656 rfl rfl (Nat.le_of_ble_eq_true rfl) dX12_mean_66 (fun v_13 s_14 => ?_)
          exact aw_zreturn (b := v_13) rfl rfl dX12_mean_69
  · refine aw_aload_n 0 dX12_mean_19 rfl rfl ?_
    refine aw_iconst 2 dX12_mean_20 (by decide) ?_
    refine aw_callVW_B (c12_no s_2 2) (io_12 (by decide)) ci_12 (by decide) mk_12_no w_1658 w_49 w_1656 rfl rfl (Nat.le_of_ble_eq_true rfl) dX12_mean_21 (fun v_15 s_16 => ?_)
    exact aw_zreturn (b := v_15) rfl rfl dX12_mean_24
def F12_noBest (σ : Mem)  : Option (Unit × Mem) :=
  bnd (sL σ 12 0 0 35 (-1)) fun s_1 => bnd (sL s_1 12 0 0 36 1) fun s_2 => some ((), s_2)
set_option maxRecDepth 20000 in
theorem c12_noBest {l : Launch} {D : va_G} {ad : Nat → Nat → Nat → Nat} {cid : Nat → Nat → Nat → ClassId} (σ : Mem)  : AMF (XM l D ad cid) M12_noBest 0 eU [.ref (ad 12 0 0)] σ (F12_noBest σ) := by
  refine AM.ofW (by decide +kernel) (Nat.le_of_ble_eq_true rfl) (ls := [(0, .ref (ad 12 0 0))]) rfl ?_
  refine aw_entry ?_
  unfold F12_noBest
  refine aw_aload_n 0 dX12_noBest_0 rfl rfl ?_
  refine aw_ldc2 w_1679 dX12_noBest_1 ?_
  refine aw_putL (fs_12_35 (by decide)) ci_12 (by decide) rfl rfl w_1491 dX12_noBest_4 ?_
  refine aw_bndM (fun s_1 => ?_)
  refine aw_aload_n 0 dX12_noBest_7 rfl rfl ?_
  refine aw_lconst 1 dX12_noBest_8 (by decide) ?_
  refine aw_putL (fs_12_36 (by decide)) ci_12 (by decide) rfl rfl w_1492 dX12_noBest_9 ?_
  refine aw_bndM (fun s_2 => ?_)
  exact aw_return rfl dX12_noBest_12
def F12_isBetter (σ : Mem)  : Option (Bool × Mem) :=
  if ((gL σ 12 0 0 35) * (Int32.toInt64 (gI σ 12 0 0 33))) < ((Int32.toInt64 (gI σ 12 0 0 34)) * (gL σ 12 0 0 36)) then (bnd (sL σ 12 0 0 35 (Int32.toInt64 (gI σ 12 0 0 34))) fun s_1 => bnd (sL s_1 12 0 0 36 (Int32.toInt64 (gI s_1 12 0 0 33))) fun s_2 => some (true, s_2)) else (some (false, σ))
set_option maxRecDepth 20000 in
theorem c12_isBetter {l : Launch} {D : va_G} {ad : Nat → Nat → Nat → Nat} {cid : Nat → Nat → Nat → ClassId} (σ : Mem)  : AMF (XM l D ad cid) M12_isBetter 0 eB [.ref (ad 12 0 0)] σ (F12_isBetter σ) := by
  refine AM.ofW (by decide +kernel) (Nat.le_of_ble_eq_true rfl) (ls := [(0, .ref (ad 12 0 0))]) rfl ?_
  refine aw_entry ?_
  unfold F12_isBetter
  refine aw_aload_n 0 dX12_isBetter_0 rfl rfl ?_
  refine aw_getf (fg_12_34 (by decide)) ci_12 (by decide) w_1490 dX12_isBetter_1 ?_
  refine aw_i2l dX12_isBetter_4 ?_
  refine aw_aload_n 0 dX12_isBetter_5 rfl rfl ?_
  refine aw_getf (fg_12_36 (by decide)) ci_12 (by decide) w_1492 dX12_isBetter_6 ?_
  refine aw_lmul dX12_isBetter_9 ?_
  refine aw_aload_n 0 dX12_isBetter_10 rfl rfl ?_
  refine aw_getf (fg_12_35 (by decide)) ci_12 (by decide) w_1491 dX12_isBetter_11 ?_
  refine aw_aload_n 0 dX12_isBetter_14 rfl rfl ?_
  refine aw_getf (fg_12_33 (by decide)) ci_12 (by decide) w_1489 dX12_isBetter_15 ?_
  refine aw_i2l dX12_isBetter_18 ?_
  refine aw_lmul dX12_isBetter_19 ?_
  refine aw_lcmp dX12_isBetter_20 ?_
  refine aw_lif_gt 26 dX12_isBetter_21 (by decide) ?_ ?_
  · refine aw_aload_n 0 dX12_isBetter_26 rfl rfl ?_
    refine aw_aload_n 0 dX12_isBetter_27 rfl rfl ?_
    refine aw_getf (fg_12_34 (by decide)) ci_12 (by decide) w_1490 dX12_isBetter_28 ?_
    refine aw_i2l dX12_isBetter_31 ?_
    refine aw_putL (fs_12_35 (by decide)) ci_12 (by decide) rfl rfl w_1491 dX12_isBetter_32 ?_
    refine aw_bndM (fun s_1 => ?_)
    refine aw_aload_n 0 dX12_isBetter_35 rfl rfl ?_
    refine aw_aload_n 0 dX12_isBetter_36 rfl rfl ?_
    refine aw_getf (fg_12_33 (by decide)) ci_12 (by decide) w_1489 dX12_isBetter_37 ?_
    refine aw_i2l dX12_isBetter_40 ?_
    refine aw_putL (fs_12_36 (by decide)) ci_12 (by decide) rfl rfl w_1492 dX12_isBetter_41 ?_
    refine aw_bndM (fun s_2 => ?_)
    refine aw_iconst 1 dX12_isBetter_44 (by decide) ?_
    exact aw_zreturn (b := true) rfl rfl dX12_isBetter_45
  · refine aw_iconst 0 dX12_isBetter_24 (by decide) ?_
    exact aw_zreturn (b := false) rfl rfl dX12_isBetter_25
def F12_bestAim_L93 (x1 : Int32) (x2 : Int32) (x3 : Int32) (x4 : Int32) (x5 : Int32) (x7 : Int32) : Nat → Mem → Int32 → Int32 → Option ((Int32) × Mem)
  | 0 => fun _ _ _ => none
  | n + 1 => fun σ x6 x8 =>
    if 20 < x8 then (some (x6, σ)) else ((ald 3000 (gI σ 12 0 5) 7).bind fun v_10 => bd (F12_counts σ x1 x2 x3 x4 x7 x8 v_10) fun _ s_11 => bd (F12_isBetter s_11) fun v_12 s_13 => if v_12 = true then (if x5 = 0 then ((F12_bestAim_L93 x1 x2 x3 x4 x5 x7 n) s_13 x7 (x8 + 1)) else ((F12_bestAim_L93 x1 x2 x3 x4 x5 x7 n) s_13 x8 (x8 + 1))) else ((F12_bestAim_L93 x1 x2 x3 x4 x5 x7 n) s_13 x6 (x8 + 1)))
set_option maxRecDepth 20000 in
theorem c12_bestAim_L93 {l : Launch} {D : va_G} {ad : Nat → Nat → Nat → Nat} {cid : Nat → Nat → Nat → ClassId} {α : Type} {emb : α → Option Value} (x1 : Int32) (x2 : Int32) (x3 : Int32) (x4 : Int32) (x5 : Int32) (x7 : Int32) {G : Int32 → Mem → Option (α × Mem)} (kx : ∀ r σ, AW (XM l D ad cid) M12_bestAim 5 emb [(0, .ref (ad 12 0 0)), (1, .int x1), (2, .int x2), (3, .int x3), (4, .int x4), (5, .int x5), (6, .int r), (7, .int x7)] 147 [] σ (G r σ)) : ∀ (n : Nat) (σ : Mem) (x6 : Int32) (x8 : Int32), AW (XM l D ad cid) M12_bestAim 5 emb [(0, .ref (ad 12 0 0)), (1, .int x1), (2, .int x2), (3, .int x3), (4, .int x4), (5, .int x5), (6, .int x6), (7, .int x7), (8, .int x8)] 93 [] σ (bd (F12_bestAim_L93 x1 x2 x3 x4 x5 x7 n σ x6 x8) G) := by
  intro n
  induction n with
  | zero => intros; exact aw_none
  | succ n ih =>
    intro σ x6 x8
    refine aw_bdB ?_
    rw [F12_bestAim_L93.eq_2]
    refine aw_iload 8 dX12_bestAim_93 rfl ?_
    refine aw_bipush 20 dX12_bestAim_95 (by decide) ?_
    refine aw_icmp_gt 147 dX12_bestAim_97 (by decide) ?_ ?_
    · refine aw_ls (ls' := [(0, .ref (ad 12 0 0)), (1, .int x1), (2, .int x2), (3, .int x3), (4, .int x4), (5, .int x5), (6, .int x6), (7, .int x7)]) [0, 1, 2, 3, 4, 5, 6, 7] rfl ?_
      exact kx x6 σ
    · refine aw_aload_n 0 dX12_bestAim_100 rfl rfl ?_
      refine aw_iload_n 1 dX12_bestAim_101 rfl rfl ?_
      refine aw_iload_n 2 dX12_bestAim_102 rfl rfl ?_
      refine aw_iload_n 3 dX12_bestAim_103 rfl rfl ?_
      refine aw_iload 4 dX12_bestAim_104 rfl ?_
      refine aw_iload 7 dX12_bestAim_106 rfl ?_
      refine aw_iload 8 dX12_bestAim_108 rfl ?_
      refine aw_aload_n 0 dX12_bestAim_110 rfl rfl ?_
      refine aw_getf (fg_12_20 (by decide)) ci_12 (by decide) w_1476 dX12_bestAim_111 ?_
      refine aw_bipush 7 dX12_bestAim_114 (by decide) ?_
      refine aw_iaload (ar_12_5 (by decide)) dX12_bestAim_116 (fun v_10 => ?_)
      refine aw_callVW_U (c12_counts σ x1 x2 x3 x4 x7 x8 v_10) (io_12 (by decide)) ci_12 (by decide) mk_12_counts w_2046 w_116 w_2044 rfl rfl (Nat.le_of_ble_eq_true rfl) dX12_bestAim_117 (fun _ s_11 => ?_)
      refine aw_aload_n 0 dX12_bestAim_120 rfl rfl ?_
      refine aw_callVW_B (c12_isBetter s_11 ) (io_12 (by decide)) ci_12 (by decide) mk_12_isBetter w_2067 w_119 w_2065 rfl rfl (Nat.le_of_ble_eq_true rfl) dX12_bestAim_121 (fun v_12 s_13 => ?_)
      refine aw_bif_eq 141 dX12_bestAim_124 (by decide) ?_ ?_
      · refine aw_iinc (ls' := [(0, .ref (ad 12 0 0)), (1, .int x1), (2, .int x2), (3, .int x3), (4, .int x4), (5, .int x5), (6, .int x6), (7, .int x7), (8, .int (x8 + 1))]) (x8 + 1) 8 [1, 2, 3, 4, 5, 6, 7, 8, 0] dX12_bestAim_141 rfl (by rfl) (by decide) rfl ?_
        refine aw_goto 93 dX12_bestAim_144 (by decide) ?_
        exact ih s_13 x6 (x8 + 1)
      · refine aw_iload 5 dX12_bestAim_127 rfl ?_
        refine aw_if_ne 137 dX12_bestAim_129 (by decide) ?_ ?_
        · refine aw_iload 8 dX12_bestAim_137 rfl ?_
          refine aw_istore (ls' := [(0, .ref (ad 12 0 0)), (1, .int x1), (2, .int x2), (3, .int x3), (4, .int x4), (5, .int x5), (6, .int x8), (7, .int x7), (8, .int x8)]) [1, 2, 3, 4, 5, 6, 0, 7, 8] dX12_bestAim_139 (by decide) rfl ?_
          refine aw_iinc (ls' := [(0, .ref (ad 12 0 0)), (1, .int x1), (2, .int x2), (3, .int x3), (4, .int x4), (5, .int x5), (6, .int x8), (7, .int x7), (8, .int (x8 + 1))]) (x8 + 1) 8 [1, 2, 3, 4, 5, 6, 7, 8, 0] dX12_bestAim_141 rfl (by rfl) (by decide) rfl ?_
          refine aw_goto 93 dX12_bestAim_144 (by decide) ?_
          exact ih s_13 x8 (x8 + 1)
        · refine aw_iload 7 dX12_bestAim_132 rfl ?_
          refine aw_goto 139 dX12_bestAim_134 (by decide) ?_
          refine aw_istore (ls' := [(0, .ref (ad 12 0 0)), (1, .int x1), (2, .int x2), (3, .int x3), (4, .int x4), (5, .int x5), (6, .int x7), (7, .int x7), (8, .int x8)]) [1, 2, 3, 4, 5, 6, 0, 7, 8] dX12_bestAim_139 (by decide) rfl ?_
          refine aw_iinc (ls' := [(0, .ref (ad 12 0 0)), (1, .int x1), (2, .int x2), (3, .int x3), (4, .int x4), (5, .int x5), (6, .int x7), (7, .int x7), (8, .int (x8 + 1))]) (x8 + 1) 8 [1, 2, 3, 4, 5, 6, 7, 8, 0] dX12_bestAim_141 rfl (by rfl) (by decide) rfl ?_
          refine aw_goto 93 dX12_bestAim_144 (by decide) ?_
          exact ih s_13 x7 (x8 + 1)
def F12_bestAim_L82 (x1 : Int32) (x2 : Int32) (x3 : Int32) (x4 : Int32) (x5 : Int32) : Nat → Mem → Int32 → Int32 → Option ((Int32) × Mem)
  | 0 => fun _ _ _ => none
  | n + 1 => fun σ x6 x7 =>
    if 20 < x7 then (some (x6, σ)) else (bd (F12_bestAim_L93 x1 x2 x3 x4 x5 x7 fuelK σ x6 (-20)) fun r_14 s_15 => (F12_bestAim_L82 x1 x2 x3 x4 x5 n) s_15 r_14 (x7 + 1))
set_option maxRecDepth 20000 in
theorem c12_bestAim_L82 {l : Launch} {D : va_G} {ad : Nat → Nat → Nat → Nat} {cid : Nat → Nat → Nat → ClassId} {α : Type} {emb : α → Option Value} (x1 : Int32) (x2 : Int32) (x3 : Int32) (x4 : Int32) (x5 : Int32) {G : Int32 → Mem → Option (α × Mem)} (kx : ∀ r σ, AW (XM l D ad cid) M12_bestAim 5 emb [(0, .ref (ad 12 0 0)), (6, .int r)] 153 [] σ (G r σ)) : ∀ (n : Nat) (σ : Mem) (x6 : Int32) (x7 : Int32), AW (XM l D ad cid) M12_bestAim 5 emb [(0, .ref (ad 12 0 0)), (1, .int x1), (2, .int x2), (3, .int x3), (4, .int x4), (5, .int x5), (6, .int x6), (7, .int x7)] 82 [] σ (bd (F12_bestAim_L82 x1 x2 x3 x4 x5 n σ x6 x7) G) := by
  intro n
  induction n with
  | zero => intros; exact aw_none
  | succ n ih =>
    intro σ x6 x7
    refine aw_bdB ?_
    rw [F12_bestAim_L82.eq_2]
    refine aw_iload 7 dX12_bestAim_82 rfl ?_
    refine aw_bipush 20 dX12_bestAim_84 (by decide) ?_
    refine aw_icmp_gt 153 dX12_bestAim_86 (by decide) ?_ ?_
    · refine aw_ls (ls' := [(0, .ref (ad 12 0 0)), (6, .int x6)]) [0, 6] rfl ?_
      exact kx x6 σ
    · refine aw_bipush (-20) dX12_bestAim_89 (by decide) ?_
      refine aw_istore (ls' := [(0, .ref (ad 12 0 0)), (1, .int x1), (2, .int x2), (3, .int x3), (4, .int x4), (5, .int x5), (6, .int x6), (7, .int x7), (8, .int (-20))]) [1, 2, 3, 4, 5, 6, 7, 8, 0] dX12_bestAim_91 (by decide) rfl ?_
      refine aw_assocW ?_
      refine c12_bestAim_L93 x1 x2 x3 x4 x5 x7 (fun r_14 s_15 => ?_) fuelK σ x6 (-20)
      refine aw_iinc (ls' := [(0, .ref (ad 12 0 0)), (1, .int x1), (2, .int x2), (3, .int x3), (4, .int x4), (5, .int x5), (6, .int r_14), (7, .int (x7 + 1))]) (x7 + 1) 7 [1, 2, 3, 4, 5, 6, 7, 0] dX12_bestAim_147 rfl (by rfl) (by decide) rfl ?_
      refine aw_goto 82 dX12_bestAim_150 (by decide) ?_
      exact ih s_15 r_14 (x7 + 1)
def F12_bestAim (σ : Mem) (x1 : Int32) (x2 : Int32) (x3 : Int32) (x4 : Int32) (x5 : Int32) : Option (Int32 × Mem) :=
  bnd (sI σ 12 0 0 1 0) fun s_1 => bnd (sI s_1 12 0 0 0 0) fun s_2 => (F12_isShot s_2 x1 x2).bind fun v_3 => if v_3 = true then ((ald 3000 (gI s_2 12 0 5) (53 + x1)).bind fun v_4 => if (F12_isPuffing x3 v_4) = true then (if (F12_isIn (Int32.toInt64 x4) 0 3) = true then (if (F12_isIn (Int32.toInt64 x5) 0 1) = true then (bd (F12_noBest s_2) fun _ s_9 => bd (F12_bestAim_L82 x1 x2 x3 x4 x5 fuelK s_9 0 (-20)) fun r_16 s_17 => bd (F12_fraction s_17 (gL s_17 12 0 0 35) (gL s_17 12 0 0 36)) fun v_18 s_19 => some (r_16, s_19)) else (bd (F12_refuse s_2 5) fun v_20 s_21 => some (v_20, s_21))) else (bd (F12_refuse s_2 5) fun v_7 s_8 => some (v_7, s_8))) else (bd (F12_refuse s_2 5) fun v_5 s_6 => some (v_5, s_6))) else (bd (F12_refuse s_2 2) fun v_22 s_23 => some (v_22, s_23))
set_option maxRecDepth 20000 in
theorem c12_bestAim {l : Launch} {D : va_G} {ad : Nat → Nat → Nat → Nat} {cid : Nat → Nat → Nat → ClassId} (σ : Mem) (x1 : Int32) (x2 : Int32) (x3 : Int32) (x4 : Int32) (x5 : Int32) : AMF (XM l D ad cid) M12_bestAim 5 eI [.ref (ad 12 0 0), .int x1, .int x2, .int x3, .int x4, .int x5] σ (F12_bestAim σ x1 x2 x3 x4 x5) := by
  refine AM.ofW (by decide +kernel) (Nat.le_of_ble_eq_true rfl) (ls := [(0, .ref (ad 12 0 0)), (1, .int x1), (2, .int x2), (3, .int x3), (4, .int x4), (5, .int x5)]) rfl ?_
  refine aw_entry ?_
  unfold F12_bestAim
  refine aw_aload_n 0 dX12_bestAim_0 rfl rfl ?_
  refine aw_iconst 0 dX12_bestAim_1 (by decide) ?_
  refine aw_putI (fs_12_1 (by decide)) ci_12 (by decide) rfl rfl w_1457 dX12_bestAim_2 ?_
  refine aw_bndM (fun s_1 => ?_)
  refine aw_aload_n 0 dX12_bestAim_5 rfl rfl ?_
  refine aw_iconst 0 dX12_bestAim_6 (by decide) ?_
  refine aw_putI (fs_12_0 (by decide)) ci_12 (by decide) rfl rfl w_1456 dX12_bestAim_7 ?_
  refine aw_bndM (fun s_2 => ?_)
  refine aw_aload_n 0 dX12_bestAim_10 rfl rfl ?_
  refine aw_iload_n 1 dX12_bestAim_11 rfl rfl ?_
  refine aw_iload_n 2 dX12_bestAim_12 rfl rfl ?_
  refine aw_callVO_B (c12_isShot s_2 x1 x2) (io_12 (by decide)) ci_12 (by decide) mk_12_isShot w_2042 w_115 w_2040 rfl rfl (Nat.le_of_ble_eq_true rfl) dX12_bestAim_13 (fun v_3 => ?_)
  refine aw_bif_ne 25 dX12_bestAim_16 (by decide) ?_ ?_
  · refine aw_iload_n 3 dX12_bestAim_25 rfl rfl ?_
    refine aw_aload_n 0 dX12_bestAim_26 rfl rfl ?_
    refine aw_getf (fg_12_20 (by decide)) ci_12 (by decide) w_1476 dX12_bestAim_27 ?_
    refine aw_bipush 53 dX12_bestAim_30 (by decide) ?_
    refine aw_iload_n 1 dX12_bestAim_32 rfl rfl ?_
    refine aw_iadd dX12_bestAim_33 ?_
    refine aw_iaload (ar_12_5 (by decide)) dX12_bestAim_34 (fun v_4 => ?_)
    refine aw_callST_B (c12_isPuffing s_2 x3 v_4) (by decide) mk_12_isPuffing w_1961 w_1960 rfl rfl (Nat.le_of_ble_eq_true rfl) dX12_bestAim_35 ?_
    refine aw_bif_eq 65 dX12_bestAim_38 (by decide) ?_ ?_
    · refine aw_aload_n 0 dX12_bestAim_65 rfl rfl ?_
      refine aw_iconst 5 dX12_bestAim_66 (by decide) ?_
      refine aw_callVW_I (c12_refuse s_2 5) (io_12 (by decide)) ci_12 (by decide) mk_12_refuse w_1919 w_101 w_1917 rfl rfl (Nat.le_of_ble_eq_true rfl) dX12_bestAim_67 (fun v_5 s_6 => ?_)
      exact aw_ireturn rfl dX12_bestAim_70
    · refine aw_iload 4 dX12_bestAim_41 rfl ?_
      refine aw_i2l dX12_bestAim_43 ?_
      refine aw_lconst 0 dX12_bestAim_44 (by decide) ?_
      refine aw_ldc2 w_1979 dX12_bestAim_45 ?_
      refine aw_callST_B (c12_isIn s_2 (Int32.toInt64 x4) 0 3) (by decide) mk_12_isIn w_1752 w_1751 rfl rfl (Nat.le_of_ble_eq_true rfl) dX12_bestAim_48 ?_
      refine aw_bif_eq 65 dX12_bestAim_51 (by decide) ?_ ?_
      · refine aw_aload_n 0 dX12_bestAim_65 rfl rfl ?_
        refine aw_iconst 5 dX12_bestAim_66 (by decide) ?_
        refine aw_callVW_I (c12_refuse s_2 5) (io_12 (by decide)) ci_12 (by decide) mk_12_refuse w_1919 w_101 w_1917 rfl rfl (Nat.le_of_ble_eq_true rfl) dX12_bestAim_67 (fun v_7 s_8 => ?_)
        exact aw_ireturn rfl dX12_bestAim_70
      · refine aw_iload 5 dX12_bestAim_54 rfl ?_
        refine aw_i2l dX12_bestAim_56 ?_
        refine aw_lconst 0 dX12_bestAim_57 (by decide) ?_
        refine aw_lconst 1 dX12_bestAim_58 (by decide) ?_
        refine aw_callST_B (c12_isIn s_2 (Int32.toInt64 x5) 0 1) (by decide) mk_12_isIn w_1752 w_1751 rfl rfl (Nat.le_of_ble_eq_true rfl) dX12_bestAim_59 ?_
        refine aw_bif_ne 71 dX12_bestAim_62 (by decide) ?_ ?_
        · refine aw_aload_n 0 dX12_bestAim_71 rfl rfl ?_
          refine aw_callVW_U (c12_noBest s_2 ) (io_12 (by decide)) ci_12 (by decide) mk_12_noBest w_2063 w_118 w_2061 rfl rfl (Nat.le_of_ble_eq_true rfl) dX12_bestAim_72 (fun _ s_9 => ?_)
          refine aw_iconst 0 dX12_bestAim_75 (by decide) ?_
          refine aw_istore (ls' := [(0, .ref (ad 12 0 0)), (1, .int x1), (2, .int x2), (3, .int x3), (4, .int x4), (5, .int x5), (6, .int 0)]) [1, 2, 3, 4, 5, 6, 0] dX12_bestAim_76 (by decide) rfl ?_
          refine aw_bipush (-20) dX12_bestAim_78 (by decide) ?_
          refine aw_istore (ls' := [(0, .ref (ad 12 0 0)), (1, .int x1), (2, .int x2), (3, .int x3), (4, .int x4), (5, .int x5), (6, .int 0), (7, .int (-20))]) [1, 2, 3, 4, 5, 6, 7, 0] dX12_bestAim_80 (by decide) rfl ?_
          refine aw_assocW ?_
          refine c12_bestAim_L82 x1 x2 x3 x4 x5 (fun r_16 s_17 => ?_) fuelK s_9 0 (-20)
          refine aw_aload_n 0 dX12_bestAim_153 rfl rfl ?_
          refine aw_aload_n 0 dX12_bestAim_154 rfl rfl ?_
          refine aw_getf (fg_12_35 (by decide)) ci_12 (by decide) w_1491 dX12_bestAim_155 ?_
          refine aw_aload_n 0 dX12_bestAim_158 rfl rfl ?_
          refine aw_getf (fg_12_36 (by decide)) ci_12 (by decide) w_1492 dX12_bestAim_159 ?_
          refine aw_callVW_B (c12_fraction s_17 (gL s_17 12 0 0 35) (gL s_17 12 0 0 36)) (io_12 (by decide)) ci_12 (by decide) mk_12_fraction w_2050 w_117 w_2048 rfl rfl (Nat.le_of_ble_eq_true rfl) dX12_bestAim_162 (fun v_18 s_19 => ?_)
          refine aw_pop dX12_bestAim_165 rfl ?_
          refine aw_iload 1 dX12_bestAim_166 rfl ?_
          exact aw_ireturn rfl dX12_bestAim_168
        · refine aw_aload_n 0 dX12_bestAim_65 rfl rfl ?_
          refine aw_iconst 5 dX12_bestAim_66 (by decide) ?_
          refine aw_callVW_I (c12_refuse s_2 5) (io_12 (by decide)) ci_12 (by decide) mk_12_refuse w_1919 w_101 w_1917 rfl rfl (Nat.le_of_ble_eq_true rfl) dX12_bestAim_67 (fun v_20 s_21 => ?_)
          exact aw_ireturn rfl dX12_bestAim_70
  · refine aw_aload_n 0 dX12_bestAim_19 rfl rfl ?_
    refine aw_iconst 2 dX12_bestAim_20 (by decide) ?_
    refine aw_callVW_I (c12_refuse s_2 2) (io_12 (by decide)) ci_12 (by decide) mk_12_refuse w_1919 w_101 w_1917 rfl rfl (Nat.le_of_ble_eq_true rfl) dX12_bestAim_21 (fun v_22 s_23 => ?_)
    exact aw_ireturn rfl dX12_bestAim_24
def F12_bestPuff_L63 (x1 : Int32) (x2 : Int32) (x3 : Int32) (x4 : Int32) (x5 : Int32) : Nat → Mem → Int32 → Int32 → Option ((Int32) × Mem)
  | 0 => fun _ _ _ => none
  | n + 1 => fun σ x6 x7 =>
    (ald 3000 (gI σ 12 0 5) (53 + x1)).bind fun v_7 => if v_7 < x7 then (some (x6, σ)) else ((ald 3000 (gI σ 12 0 5) 7).bind fun v_8 => bd (F12_counts σ x1 x2 x7 x3 x4 x5 v_8) fun _ s_9 => bd (F12_isBetter s_9) fun v_10 s_11 => if v_10 = true then ((F12_bestPuff_L63 x1 x2 x3 x4 x5 n) s_11 x7 (x7 + 1)) else ((F12_bestPuff_L63 x1 x2 x3 x4 x5 n) s_11 x6 (x7 + 1)))
set_option maxRecDepth 20000 in
theorem c12_bestPuff_L63 {l : Launch} {D : va_G} {ad : Nat → Nat → Nat → Nat} {cid : Nat → Nat → Nat → ClassId} {α : Type} {emb : α → Option Value} (x1 : Int32) (x2 : Int32) (x3 : Int32) (x4 : Int32) (x5 : Int32) {G : Int32 → Mem → Option (α × Mem)} (kx : ∀ r σ, AW (XM l D ad cid) M12_bestPuff 5 emb [(0, .ref (ad 12 0 0)), (6, .int r)] 114 [] σ (G r σ)) : ∀ (n : Nat) (σ : Mem) (x6 : Int32) (x7 : Int32), AW (XM l D ad cid) M12_bestPuff 5 emb [(0, .ref (ad 12 0 0)), (1, .int x1), (2, .int x2), (3, .int x3), (4, .int x4), (5, .int x5), (6, .int x6), (7, .int x7)] 63 [] σ (bd (F12_bestPuff_L63 x1 x2 x3 x4 x5 n σ x6 x7) G) := by
  intro n
  induction n with
  | zero => intros; exact aw_none
  | succ n ih =>
    intro σ x6 x7
    refine aw_bdB ?_
    rw [F12_bestPuff_L63.eq_2]
    refine aw_iload 7 dX12_bestPuff_63 rfl ?_
    refine aw_aload_n 0 dX12_bestPuff_65 rfl rfl ?_
    refine aw_getf (fg_12_20 (by decide)) ci_12 (by decide) w_1476 dX12_bestPuff_66 ?_
    refine aw_bipush 53 dX12_bestPuff_69 (by decide) ?_
    refine aw_iload_n 1 dX12_bestPuff_71 rfl rfl ?_
    refine aw_iadd dX12_bestPuff_72 ?_
    refine aw_iaload (ar_12_5 (by decide)) dX12_bestPuff_73 (fun v_7 => ?_)
    refine aw_icmp_gt 114 dX12_bestPuff_74 (by decide) ?_ ?_
    · refine aw_ls (ls' := [(0, .ref (ad 12 0 0)), (6, .int x6)]) [0, 6] rfl ?_
      exact kx x6 σ
    · refine aw_aload_n 0 dX12_bestPuff_77 rfl rfl ?_
      refine aw_iload_n 1 dX12_bestPuff_78 rfl rfl ?_
      refine aw_iload_n 2 dX12_bestPuff_79 rfl rfl ?_
      refine aw_iload 7 dX12_bestPuff_80 rfl ?_
      refine aw_iload_n 3 dX12_bestPuff_82 rfl rfl ?_
      refine aw_iload 4 dX12_bestPuff_83 rfl ?_
      refine aw_iload 5 dX12_bestPuff_85 rfl ?_
      refine aw_aload_n 0 dX12_bestPuff_87 rfl rfl ?_
      refine aw_getf (fg_12_20 (by decide)) ci_12 (by decide) w_1476 dX12_bestPuff_88 ?_
      refine aw_bipush 7 dX12_bestPuff_91 (by decide) ?_
      refine aw_iaload (ar_12_5 (by decide)) dX12_bestPuff_93 (fun v_8 => ?_)
      refine aw_callVW_U (c12_counts σ x1 x2 x7 x3 x4 x5 v_8) (io_12 (by decide)) ci_12 (by decide) mk_12_counts w_2046 w_116 w_2044 rfl rfl (Nat.le_of_ble_eq_true rfl) dX12_bestPuff_94 (fun _ s_9 => ?_)
      refine aw_aload_n 0 dX12_bestPuff_97 rfl rfl ?_
      refine aw_callVW_B (c12_isBetter s_9 ) (io_12 (by decide)) ci_12 (by decide) mk_12_isBetter w_2067 w_119 w_2065 rfl rfl (Nat.le_of_ble_eq_true rfl) dX12_bestPuff_98 (fun v_10 s_11 => ?_)
      refine aw_bif_eq 108 dX12_bestPuff_101 (by decide) ?_ ?_
      · refine aw_iinc (ls' := [(0, .ref (ad 12 0 0)), (1, .int x1), (2, .int x2), (3, .int x3), (4, .int x4), (5, .int x5), (6, .int x6), (7, .int (x7 + 1))]) (x7 + 1) 7 [1, 2, 3, 4, 5, 6, 7, 0] dX12_bestPuff_108 rfl (by rfl) (by decide) rfl ?_
        refine aw_goto 63 dX12_bestPuff_111 (by decide) ?_
        exact ih s_11 x6 (x7 + 1)
      · refine aw_iload 7 dX12_bestPuff_104 rfl ?_
        refine aw_istore (ls' := [(0, .ref (ad 12 0 0)), (1, .int x1), (2, .int x2), (3, .int x3), (4, .int x4), (5, .int x5), (6, .int x7), (7, .int x7)]) [1, 2, 3, 4, 5, 6, 0, 7] dX12_bestPuff_106 (by decide) rfl ?_
        refine aw_iinc (ls' := [(0, .ref (ad 12 0 0)), (1, .int x1), (2, .int x2), (3, .int x3), (4, .int x4), (5, .int x5), (6, .int x7), (7, .int (x7 + 1))]) (x7 + 1) 7 [1, 2, 3, 4, 5, 6, 7, 0] dX12_bestPuff_108 rfl (by rfl) (by decide) rfl ?_
        refine aw_goto 63 dX12_bestPuff_111 (by decide) ?_
        exact ih s_11 x7 (x7 + 1)
def F12_bestPuff (σ : Mem) (x1 : Int32) (x2 : Int32) (x3 : Int32) (x4 : Int32) (x5 : Int32) : Option (Int32 × Mem) :=
  bnd (sI σ 12 0 0 1 0) fun s_1 => bnd (sI s_1 12 0 0 0 0) fun s_2 => (F12_isShot s_2 x1 x2).bind fun v_3 => if v_3 = true then (if (F12_isIn (Int32.toInt64 x3) 0 3) = true then (if (F12_isAim x4 x5) = true then (bd (F12_noBest s_2) fun _ s_6 => bd (F12_bestPuff_L63 x1 x2 x3 x4 x5 fuelK s_6 1 1) fun r_12 s_13 => bd (F12_fraction s_13 (gL s_13 12 0 0 35) (gL s_13 12 0 0 36)) fun v_14 s_15 => some (r_12, s_15)) else (bd (F12_refuse s_2 5) fun v_16 s_17 => some (v_16, s_17))) else (bd (F12_refuse s_2 5) fun v_4 s_5 => some (v_4, s_5))) else (bd (F12_refuse s_2 2) fun v_18 s_19 => some (v_18, s_19))
set_option maxRecDepth 20000 in
theorem c12_bestPuff {l : Launch} {D : va_G} {ad : Nat → Nat → Nat → Nat} {cid : Nat → Nat → Nat → ClassId} (σ : Mem) (x1 : Int32) (x2 : Int32) (x3 : Int32) (x4 : Int32) (x5 : Int32) : AMF (XM l D ad cid) M12_bestPuff 5 eI [.ref (ad 12 0 0), .int x1, .int x2, .int x3, .int x4, .int x5] σ (F12_bestPuff σ x1 x2 x3 x4 x5) := by
  refine AM.ofW (by decide +kernel) (Nat.le_of_ble_eq_true rfl) (ls := [(0, .ref (ad 12 0 0)), (1, .int x1), (2, .int x2), (3, .int x3), (4, .int x4), (5, .int x5)]) rfl ?_
  refine aw_entry ?_
  unfold F12_bestPuff
  refine aw_aload_n 0 dX12_bestPuff_0 rfl rfl ?_
  refine aw_iconst 0 dX12_bestPuff_1 (by decide) ?_
  refine aw_putI (fs_12_1 (by decide)) ci_12 (by decide) rfl rfl w_1457 dX12_bestPuff_2 ?_
  refine aw_bndM (fun s_1 => ?_)
  refine aw_aload_n 0 dX12_bestPuff_5 rfl rfl ?_
  refine aw_iconst 0 dX12_bestPuff_6 (by decide) ?_
  refine aw_putI (fs_12_0 (by decide)) ci_12 (by decide) rfl rfl w_1456 dX12_bestPuff_7 ?_
  refine aw_bndM (fun s_2 => ?_)
  refine aw_aload_n 0 dX12_bestPuff_10 rfl rfl ?_
  refine aw_iload_n 1 dX12_bestPuff_11 rfl rfl ?_
  refine aw_iload_n 2 dX12_bestPuff_12 rfl rfl ?_
  refine aw_callVO_B (c12_isShot s_2 x1 x2) (io_12 (by decide)) ci_12 (by decide) mk_12_isShot w_2042 w_115 w_2040 rfl rfl (Nat.le_of_ble_eq_true rfl) dX12_bestPuff_13 (fun v_3 => ?_)
  refine aw_bif_ne 25 dX12_bestPuff_16 (by decide) ?_ ?_
  · refine aw_iload_n 3 dX12_bestPuff_25 rfl rfl ?_
    refine aw_i2l dX12_bestPuff_26 ?_
    refine aw_lconst 0 dX12_bestPuff_27 (by decide) ?_
    refine aw_ldc2 w_1979 dX12_bestPuff_28 ?_
    refine aw_callST_B (c12_isIn s_2 (Int32.toInt64 x3) 0 3) (by decide) mk_12_isIn w_1752 w_1751 rfl rfl (Nat.le_of_ble_eq_true rfl) dX12_bestPuff_31 ?_
    refine aw_bif_eq 47 dX12_bestPuff_34 (by decide) ?_ ?_
    · refine aw_aload_n 0 dX12_bestPuff_47 rfl rfl ?_
      refine aw_iconst 5 dX12_bestPuff_48 (by decide) ?_
      refine aw_callVW_I (c12_refuse s_2 5) (io_12 (by decide)) ci_12 (by decide) mk_12_refuse w_1919 w_101 w_1917 rfl rfl (Nat.le_of_ble_eq_true rfl) dX12_bestPuff_49 (fun v_4 s_5 => ?_)
      exact aw_ireturn rfl dX12_bestPuff_52
    · refine aw_iload 4 dX12_bestPuff_37 rfl ?_
      refine aw_iload 5 dX12_bestPuff_39 rfl ?_
      refine aw_callST_B (c12_isAim s_2 x4 x5) (by decide) mk_12_isAim w_1994 w_1993 rfl rfl (Nat.le_of_ble_eq_true rfl) dX12_bestPuff_41 ?_
      refine aw_bif_ne 53 dX12_bestPuff_44 (by decide) ?_ ?_
      · refine aw_aload_n 0 dX12_bestPuff_53 rfl rfl ?_
        refine aw_callVW_U (c12_noBest s_2 ) (io_12 (by decide)) ci_12 (by decide) mk_12_noBest w_2063 w_118 w_2061 rfl rfl (Nat.le_of_ble_eq_true rfl) dX12_bestPuff_54 (fun _ s_6 => ?_)
        refine aw_iconst 1 dX12_bestPuff_57 (by decide) ?_
        refine aw_istore (ls' := [(0, .ref (ad 12 0 0)), (1, .int x1), (2, .int x2), (3, .int x3), (4, .int x4), (5, .int x5), (6, .int 1)]) [1, 2, 3, 4, 5, 6, 0] dX12_bestPuff_58 (by decide) rfl ?_
        refine aw_iconst 1 dX12_bestPuff_60 (by decide) ?_
        refine aw_istore (ls' := [(0, .ref (ad 12 0 0)), (1, .int x1), (2, .int x2), (3, .int x3), (4, .int x4), (5, .int x5), (6, .int 1), (7, .int 1)]) [1, 2, 3, 4, 5, 6, 7, 0] dX12_bestPuff_61 (by decide) rfl ?_
        refine aw_assocW ?_
        refine c12_bestPuff_L63 x1 x2 x3 x4 x5 (fun r_12 s_13 => ?_) fuelK s_6 1 1
        refine aw_aload_n 0 dX12_bestPuff_114 rfl rfl ?_
        refine aw_aload_n 0 dX12_bestPuff_115 rfl rfl ?_
        refine aw_getf (fg_12_35 (by decide)) ci_12 (by decide) w_1491 dX12_bestPuff_116 ?_
        refine aw_aload_n 0 dX12_bestPuff_119 rfl rfl ?_
        refine aw_getf (fg_12_36 (by decide)) ci_12 (by decide) w_1492 dX12_bestPuff_120 ?_
        refine aw_callVW_B (c12_fraction s_13 (gL s_13 12 0 0 35) (gL s_13 12 0 0 36)) (io_12 (by decide)) ci_12 (by decide) mk_12_fraction w_2050 w_117 w_2048 rfl rfl (Nat.le_of_ble_eq_true rfl) dX12_bestPuff_123 (fun v_14 s_15 => ?_)
        refine aw_pop dX12_bestPuff_126 rfl ?_
        refine aw_iload 1 dX12_bestPuff_127 rfl ?_
        exact aw_ireturn rfl dX12_bestPuff_129
      · refine aw_aload_n 0 dX12_bestPuff_47 rfl rfl ?_
        refine aw_iconst 5 dX12_bestPuff_48 (by decide) ?_
        refine aw_callVW_I (c12_refuse s_2 5) (io_12 (by decide)) ci_12 (by decide) mk_12_refuse w_1919 w_101 w_1917 rfl rfl (Nat.le_of_ble_eq_true rfl) dX12_bestPuff_49 (fun v_16 s_17 => ?_)
        exact aw_ireturn rfl dX12_bestPuff_52
  · refine aw_aload_n 0 dX12_bestPuff_19 rfl rfl ?_
    refine aw_iconst 2 dX12_bestPuff_20 (by decide) ?_
    refine aw_callVW_I (c12_refuse s_2 2) (io_12 (by decide)) ci_12 (by decide) mk_12_refuse w_1919 w_101 w_1917 rfl rfl (Nat.le_of_ble_eq_true rfl) dX12_bestPuff_21 (fun v_18 s_19 => ?_)
    exact aw_ireturn rfl dX12_bestPuff_24
def F12_bestBeat_L67 (x1 : Int32) (x2 : Int32) (x3 : Int32) (x4 : Int32) (x5 : Int32) : Nat → Mem → Int32 → Int32 → Option ((Int32) × Mem)
  | 0 => fun _ _ _ => none
  | n + 1 => fun σ x6 x7 =>
    if 4 ≤ x7 then (some (x6, σ)) else ((ald 3000 (gI σ 12 0 5) 7).bind fun v_8 => bd (F12_counts σ x1 x2 x3 x7 x4 x5 v_8) fun _ s_9 => bd (F12_isBetter s_9) fun v_10 s_11 => if v_10 = true then ((F12_bestBeat_L67 x1 x2 x3 x4 x5 n) s_11 x7 (x7 + 1)) else ((F12_bestBeat_L67 x1 x2 x3 x4 x5 n) s_11 x6 (x7 + 1)))
set_option maxRecDepth 20000 in
theorem c12_bestBeat_L67 {l : Launch} {D : va_G} {ad : Nat → Nat → Nat → Nat} {cid : Nat → Nat → Nat → ClassId} {α : Type} {emb : α → Option Value} (x1 : Int32) (x2 : Int32) (x3 : Int32) (x4 : Int32) (x5 : Int32) {G : Int32 → Mem → Option (α × Mem)} (kx : ∀ r σ, AW (XM l D ad cid) M12_bestBeat 5 emb [(0, .ref (ad 12 0 0)), (6, .int r)] 110 [] σ (G r σ)) : ∀ (n : Nat) (σ : Mem) (x6 : Int32) (x7 : Int32), AW (XM l D ad cid) M12_bestBeat 5 emb [(0, .ref (ad 12 0 0)), (1, .int x1), (2, .int x2), (3, .int x3), (4, .int x4), (5, .int x5), (6, .int x6), (7, .int x7)] 67 [] σ (bd (F12_bestBeat_L67 x1 x2 x3 x4 x5 n σ x6 x7) G) := by
  intro n
  induction n with
  | zero => intros; exact aw_none
  | succ n ih =>
    intro σ x6 x7
    refine aw_bdB ?_
    rw [F12_bestBeat_L67.eq_2]
    refine aw_iload 7 dX12_bestBeat_67 rfl ?_
    refine aw_iconst 4 dX12_bestBeat_69 (by decide) ?_
    refine aw_icmp_ge 110 dX12_bestBeat_70 (by decide) ?_ ?_
    · refine aw_ls (ls' := [(0, .ref (ad 12 0 0)), (6, .int x6)]) [0, 6] rfl ?_
      exact kx x6 σ
    · refine aw_aload_n 0 dX12_bestBeat_73 rfl rfl ?_
      refine aw_iload_n 1 dX12_bestBeat_74 rfl rfl ?_
      refine aw_iload_n 2 dX12_bestBeat_75 rfl rfl ?_
      refine aw_iload_n 3 dX12_bestBeat_76 rfl rfl ?_
      refine aw_iload 7 dX12_bestBeat_77 rfl ?_
      refine aw_iload 4 dX12_bestBeat_79 rfl ?_
      refine aw_iload 5 dX12_bestBeat_81 rfl ?_
      refine aw_aload_n 0 dX12_bestBeat_83 rfl rfl ?_
      refine aw_getf (fg_12_20 (by decide)) ci_12 (by decide) w_1476 dX12_bestBeat_84 ?_
      refine aw_bipush 7 dX12_bestBeat_87 (by decide) ?_
      refine aw_iaload (ar_12_5 (by decide)) dX12_bestBeat_89 (fun v_8 => ?_)
      refine aw_callVW_U (c12_counts σ x1 x2 x3 x7 x4 x5 v_8) (io_12 (by decide)) ci_12 (by decide) mk_12_counts w_2046 w_116 w_2044 rfl rfl (Nat.le_of_ble_eq_true rfl) dX12_bestBeat_90 (fun _ s_9 => ?_)
      refine aw_aload_n 0 dX12_bestBeat_93 rfl rfl ?_
      refine aw_callVW_B (c12_isBetter s_9 ) (io_12 (by decide)) ci_12 (by decide) mk_12_isBetter w_2067 w_119 w_2065 rfl rfl (Nat.le_of_ble_eq_true rfl) dX12_bestBeat_94 (fun v_10 s_11 => ?_)
      refine aw_bif_eq 104 dX12_bestBeat_97 (by decide) ?_ ?_
      · refine aw_iinc (ls' := [(0, .ref (ad 12 0 0)), (1, .int x1), (2, .int x2), (3, .int x3), (4, .int x4), (5, .int x5), (6, .int x6), (7, .int (x7 + 1))]) (x7 + 1) 7 [1, 2, 3, 4, 5, 6, 7, 0] dX12_bestBeat_104 rfl (by rfl) (by decide) rfl ?_
        refine aw_goto 67 dX12_bestBeat_107 (by decide) ?_
        exact ih s_11 x6 (x7 + 1)
      · refine aw_iload 7 dX12_bestBeat_100 rfl ?_
        refine aw_istore (ls' := [(0, .ref (ad 12 0 0)), (1, .int x1), (2, .int x2), (3, .int x3), (4, .int x4), (5, .int x5), (6, .int x7), (7, .int x7)]) [1, 2, 3, 4, 5, 6, 0, 7] dX12_bestBeat_102 (by decide) rfl ?_
        refine aw_iinc (ls' := [(0, .ref (ad 12 0 0)), (1, .int x1), (2, .int x2), (3, .int x3), (4, .int x4), (5, .int x5), (6, .int x7), (7, .int (x7 + 1))]) (x7 + 1) 7 [1, 2, 3, 4, 5, 6, 7, 0] dX12_bestBeat_104 rfl (by rfl) (by decide) rfl ?_
        refine aw_goto 67 dX12_bestBeat_107 (by decide) ?_
        exact ih s_11 x7 (x7 + 1)
def F12_bestBeat (σ : Mem) (x1 : Int32) (x2 : Int32) (x3 : Int32) (x4 : Int32) (x5 : Int32) : Option (Int32 × Mem) :=
  bnd (sI σ 12 0 0 1 0) fun s_1 => bnd (sI s_1 12 0 0 0 0) fun s_2 => (F12_isShot s_2 x1 x2).bind fun v_3 => if v_3 = true then ((ald 3000 (gI s_2 12 0 5) (53 + x1)).bind fun v_4 => if (F12_isPuffing x3 v_4) = true then (if (F12_isAim x4 x5) = true then (bd (F12_noBest s_2) fun _ s_7 => bd (F12_bestBeat_L67 x1 x2 x3 x4 x5 fuelK s_7 0 0) fun r_12 s_13 => bd (F12_fraction s_13 (gL s_13 12 0 0 35) (gL s_13 12 0 0 36)) fun v_14 s_15 => some (r_12, s_15)) else (bd (F12_refuse s_2 5) fun v_16 s_17 => some (v_16, s_17))) else (bd (F12_refuse s_2 5) fun v_5 s_6 => some (v_5, s_6))) else (bd (F12_refuse s_2 2) fun v_18 s_19 => some (v_18, s_19))
set_option maxRecDepth 20000 in
theorem c12_bestBeat {l : Launch} {D : va_G} {ad : Nat → Nat → Nat → Nat} {cid : Nat → Nat → Nat → ClassId} (σ : Mem) (x1 : Int32) (x2 : Int32) (x3 : Int32) (x4 : Int32) (x5 : Int32) : AMF (XM l D ad cid) M12_bestBeat 5 eI [.ref (ad 12 0 0), .int x1, .int x2, .int x3, .int x4, .int x5] σ (F12_bestBeat σ x1 x2 x3 x4 x5) := by
  refine AM.ofW (by decide +kernel) (Nat.le_of_ble_eq_true rfl) (ls := [(0, .ref (ad 12 0 0)), (1, .int x1), (2, .int x2), (3, .int x3), (4, .int x4), (5, .int x5)]) rfl ?_
  refine aw_entry ?_
  unfold F12_bestBeat
  refine aw_aload_n 0 dX12_bestBeat_0 rfl rfl ?_
  refine aw_iconst 0 dX12_bestBeat_1 (by decide) ?_
  refine aw_putI (fs_12_1 (by decide)) ci_12 (by decide) rfl rfl w_1457 dX12_bestBeat_2 ?_
  refine aw_bndM (fun s_1 => ?_)
  refine aw_aload_n 0 dX12_bestBeat_5 rfl rfl ?_
  refine aw_iconst 0 dX12_bestBeat_6 (by decide) ?_
  refine aw_putI (fs_12_0 (by decide)) ci_12 (by decide) rfl rfl w_1456 dX12_bestBeat_7 ?_
  refine aw_bndM (fun s_2 => ?_)
  refine aw_aload_n 0 dX12_bestBeat_10 rfl rfl ?_
  refine aw_iload_n 1 dX12_bestBeat_11 rfl rfl ?_
  refine aw_iload_n 2 dX12_bestBeat_12 rfl rfl ?_
  refine aw_callVO_B (c12_isShot s_2 x1 x2) (io_12 (by decide)) ci_12 (by decide) mk_12_isShot w_2042 w_115 w_2040 rfl rfl (Nat.le_of_ble_eq_true rfl) dX12_bestBeat_13 (fun v_3 => ?_)
  refine aw_bif_ne 25 dX12_bestBeat_16 (by decide) ?_ ?_
  · refine aw_iload_n 3 dX12_bestBeat_25 rfl rfl ?_
    refine aw_aload_n 0 dX12_bestBeat_26 rfl rfl ?_
    refine aw_getf (fg_12_20 (by decide)) ci_12 (by decide) w_1476 dX12_bestBeat_27 ?_
    refine aw_bipush 53 dX12_bestBeat_30 (by decide) ?_
    refine aw_iload_n 1 dX12_bestBeat_32 rfl rfl ?_
    refine aw_iadd dX12_bestBeat_33 ?_
    refine aw_iaload (ar_12_5 (by decide)) dX12_bestBeat_34 (fun v_4 => ?_)
    refine aw_callST_B (c12_isPuffing s_2 x3 v_4) (by decide) mk_12_isPuffing w_1961 w_1960 rfl rfl (Nat.le_of_ble_eq_true rfl) dX12_bestBeat_35 ?_
    refine aw_bif_eq 51 dX12_bestBeat_38 (by decide) ?_ ?_
    · refine aw_aload_n 0 dX12_bestBeat_51 rfl rfl ?_
      refine aw_iconst 5 dX12_bestBeat_52 (by decide) ?_
      refine aw_callVW_I (c12_refuse s_2 5) (io_12 (by decide)) ci_12 (by decide) mk_12_refuse w_1919 w_101 w_1917 rfl rfl (Nat.le_of_ble_eq_true rfl) dX12_bestBeat_53 (fun v_5 s_6 => ?_)
      exact aw_ireturn rfl dX12_bestBeat_56
    · refine aw_iload 4 dX12_bestBeat_41 rfl ?_
      refine aw_iload 5 dX12_bestBeat_43 rfl ?_
      refine aw_callST_B (c12_isAim s_2 x4 x5) (by decide) mk_12_isAim w_1994 w_1993 rfl rfl (Nat.le_of_ble_eq_true rfl) dX12_bestBeat_45 ?_
      refine aw_bif_ne 57 dX12_bestBeat_48 (by decide) ?_ ?_
      · refine aw_aload_n 0 dX12_bestBeat_57 rfl rfl ?_
        refine aw_callVW_U (c12_noBest s_2 ) (io_12 (by decide)) ci_12 (by decide) mk_12_noBest w_2063 w_118 w_2061 rfl rfl (Nat.le_of_ble_eq_true rfl) dX12_bestBeat_58 (fun _ s_7 => ?_)
        refine aw_iconst 0 dX12_bestBeat_61 (by decide) ?_
        refine aw_istore (ls' := [(0, .ref (ad 12 0 0)), (1, .int x1), (2, .int x2), (3, .int x3), (4, .int x4), (5, .int x5), (6, .int 0)]) [1, 2, 3, 4, 5, 6, 0] dX12_bestBeat_62 (by decide) rfl ?_
        refine aw_iconst 0 dX12_bestBeat_64 (by decide) ?_
        refine aw_istore (ls' := [(0, .ref (ad 12 0 0)), (1, .int x1), (2, .int x2), (3, .int x3), (4, .int x4), (5, .int x5), (6, .int 0), (7, .int 0)]) [1, 2, 3, 4, 5, 6, 7, 0] dX12_bestBeat_65 (by decide) rfl ?_
        refine aw_assocW ?_
        refine c12_bestBeat_L67 x1 x2 x3 x4 x5 (fun r_12 s_13 => ?_) fuelK s_7 0 0
        refine aw_aload_n 0 dX12_bestBeat_110 rfl rfl ?_
        refine aw_aload_n 0 dX12_bestBeat_111 rfl rfl ?_
        refine aw_getf (fg_12_35 (by decide)) ci_12 (by decide) w_1491 dX12_bestBeat_112 ?_
        refine aw_aload_n 0 dX12_bestBeat_115 rfl rfl ?_
        refine aw_getf (fg_12_36 (by decide)) ci_12 (by decide) w_1492 dX12_bestBeat_116 ?_
        refine aw_callVW_B (c12_fraction s_13 (gL s_13 12 0 0 35) (gL s_13 12 0 0 36)) (io_12 (by decide)) ci_12 (by decide) mk_12_fraction w_2050 w_117 w_2048 rfl rfl (Nat.le_of_ble_eq_true rfl) dX12_bestBeat_119 (fun v_14 s_15 => ?_)
        refine aw_pop dX12_bestBeat_122 rfl ?_
        refine aw_iload 1 dX12_bestBeat_123 rfl ?_
        exact aw_ireturn rfl dX12_bestBeat_125
      · refine aw_aload_n 0 dX12_bestBeat_51 rfl rfl ?_
        refine aw_iconst 5 dX12_bestBeat_52 (by decide) ?_
        refine aw_callVW_I (c12_refuse s_2 5) (io_12 (by decide)) ci_12 (by decide) mk_12_refuse w_1919 w_101 w_1917 rfl rfl (Nat.le_of_ble_eq_true rfl) dX12_bestBeat_53 (fun v_16 s_17 => ?_)
        exact aw_ireturn rfl dX12_bestBeat_56
  · refine aw_aload_n 0 dX12_bestBeat_19 rfl rfl ?_
    refine aw_iconst 2 dX12_bestBeat_20 (by decide) ?_
    refine aw_callVW_I (c12_refuse s_2 2) (io_12 (by decide)) ci_12 (by decide) mk_12_refuse w_1919 w_101 w_1917 rfl rfl (Nat.le_of_ble_eq_true rfl) dX12_bestBeat_21 (fun v_18 s_19 => ?_)
    exact aw_ireturn rfl dX12_bestBeat_24
def F12_longest_L90 (x1 : Int32) (x2 : Int32) (x3 : Int32) (x4 : Int32) (x5 : Int32) (x6 : Int32) (x7 : Int32) : Nat → Mem → Int32 → Int32 → Option ((Int32) × Mem)
  | 0 => fun _ _ _ => none
  | n + 1 => fun σ x8 x9 =>
    if 48 < x9 then (some (x8, σ)) else (chk 3000 0 <| bnd (sI σ 12 0 5 (Int32.toNatClampNeg 0) x9) fun s_11 => (ald 3000 (gI s_11 12 0 5) 7).bind fun v_12 => bd (F12_counts s_11 x1 x2 x3 x4 x5 x6 v_12) fun _ s_13 => bd (F12_isBetter s_13) fun v_14 s_15 => if v_14 = true then ((F12_longest_L90 x1 x2 x3 x4 x5 x6 x7 n) s_15 x9 (x9 + 1)) else ((F12_longest_L90 x1 x2 x3 x4 x5 x6 x7 n) s_15 x8 (x9 + 1)))
set_option maxRecDepth 20000 in
theorem c12_longest_L90 {l : Launch} {D : va_G} {ad : Nat → Nat → Nat → Nat} {cid : Nat → Nat → Nat → ClassId} {α : Type} {emb : α → Option Value} (x1 : Int32) (x2 : Int32) (x3 : Int32) (x4 : Int32) (x5 : Int32) (x6 : Int32) (x7 : Int32) {G : Int32 → Mem → Option (α × Mem)} (kx : ∀ r σ, AW (XM l D ad cid) M12_longest 5 emb [(0, .ref (ad 12 0 0)), (7, .int x7), (8, .int r)] 142 [] σ (G r σ)) : ∀ (n : Nat) (σ : Mem) (x8 : Int32) (x9 : Int32), AW (XM l D ad cid) M12_longest 5 emb [(0, .ref (ad 12 0 0)), (1, .int x1), (2, .int x2), (3, .int x3), (4, .int x4), (5, .int x5), (6, .int x6), (7, .int x7), (8, .int x8), (9, .int x9)] 90 [] σ (bd (F12_longest_L90 x1 x2 x3 x4 x5 x6 x7 n σ x8 x9) G) := by
  intro n
  induction n with
  | zero => intros; exact aw_none
  | succ n ih =>
    intro σ x8 x9
    refine aw_bdB ?_
    rw [F12_longest_L90.eq_2]
    refine aw_iload 9 dX12_longest_90 rfl ?_
    refine aw_bipush 48 dX12_longest_92 (by decide) ?_
    refine aw_icmp_gt 142 dX12_longest_94 (by decide) ?_ ?_
    · refine aw_ls (ls' := [(0, .ref (ad 12 0 0)), (7, .int x7), (8, .int x8)]) [0, 7, 8] rfl ?_
      exact kx x8 σ
    · refine aw_aload_n 0 dX12_longest_97 rfl rfl ?_
      refine aw_getf (fg_12_20 (by decide)) ci_12 (by decide) w_1476 dX12_longest_98 ?_
      refine aw_iconst 0 dX12_longest_101 (by decide) ?_
      refine aw_iload 9 dX12_longest_102 rfl ?_
      refine aw_iastore (ar_12_5 (by decide)) dX12_longest_104 ?_
      refine aw_bndM (fun s_11 => ?_)
      refine aw_aload_n 0 dX12_longest_105 rfl rfl ?_
      refine aw_iload_n 1 dX12_longest_106 rfl rfl ?_
      refine aw_iload_n 2 dX12_longest_107 rfl rfl ?_
      refine aw_iload_n 3 dX12_longest_108 rfl rfl ?_
      refine aw_iload 4 dX12_longest_109 rfl ?_
      refine aw_iload 5 dX12_longest_111 rfl ?_
      refine aw_iload 6 dX12_longest_113 rfl ?_
      refine aw_aload_n 0 dX12_longest_115 rfl rfl ?_
      refine aw_getf (fg_12_20 (by decide)) ci_12 (by decide) w_1476 dX12_longest_116 ?_
      refine aw_bipush 7 dX12_longest_119 (by decide) ?_
      refine aw_iaload (ar_12_5 (by decide)) dX12_longest_121 (fun v_12 => ?_)
      refine aw_callVW_U (c12_counts s_11 x1 x2 x3 x4 x5 x6 v_12) (io_12 (by decide)) ci_12 (by decide) mk_12_counts w_2046 w_116 w_2044 rfl rfl (Nat.le_of_ble_eq_true rfl) dX12_longest_122 (fun _ s_13 => ?_)
      refine aw_aload_n 0 dX12_longest_125 rfl rfl ?_
      refine aw_callVW_B (c12_isBetter s_13 ) (io_12 (by decide)) ci_12 (by decide) mk_12_isBetter w_2067 w_119 w_2065 rfl rfl (Nat.le_of_ble_eq_true rfl) dX12_longest_126 (fun v_14 s_15 => ?_)
      refine aw_bif_eq 136 dX12_longest_129 (by decide) ?_ ?_
      · refine aw_iinc (ls' := [(0, .ref (ad 12 0 0)), (1, .int x1), (2, .int x2), (3, .int x3), (4, .int x4), (5, .int x5), (6, .int x6), (7, .int x7), (8, .int x8), (9, .int (x9 + 1))]) (x9 + 1) 9 [1, 2, 3, 4, 5, 6, 7, 8, 9, 0] dX12_longest_136 rfl (by rfl) (by decide) rfl ?_
        refine aw_goto 90 dX12_longest_139 (by decide) ?_
        exact ih s_15 x8 (x9 + 1)
      · refine aw_iload 9 dX12_longest_132 rfl ?_
        refine aw_istore (ls' := [(0, .ref (ad 12 0 0)), (1, .int x1), (2, .int x2), (3, .int x3), (4, .int x4), (5, .int x5), (6, .int x6), (7, .int x7), (8, .int x9), (9, .int x9)]) [1, 2, 3, 4, 5, 6, 7, 8, 0, 9] dX12_longest_134 (by decide) rfl ?_
        refine aw_iinc (ls' := [(0, .ref (ad 12 0 0)), (1, .int x1), (2, .int x2), (3, .int x3), (4, .int x4), (5, .int x5), (6, .int x6), (7, .int x7), (8, .int x9), (9, .int (x9 + 1))]) (x9 + 1) 9 [1, 2, 3, 4, 5, 6, 7, 8, 9, 0] dX12_longest_136 rfl (by rfl) (by decide) rfl ?_
        refine aw_goto 90 dX12_longest_139 (by decide) ?_
        exact ih s_15 x9 (x9 + 1)
def F12_longest (σ : Mem) (x1 : Int32) (x2 : Int32) (x3 : Int32) (x4 : Int32) (x5 : Int32) (x6 : Int32) : Option (Int32 × Mem) :=
  bnd (sI σ 12 0 0 1 0) fun s_1 => bnd (sI s_1 12 0 0 0 0) fun s_2 => (F12_isShot s_2 x1 x2).bind fun v_3 => if v_3 = true then ((ald 3000 (gI s_2 12 0 5) (53 + x1)).bind fun v_4 => if (F12_isPuffing x3 v_4) = true then (if (F12_isIn (Int32.toInt64 x4) 0 3) = true then (if (F12_isAim x5 x6) = true then (bd (F12_noBest s_2) fun _ s_9 => (ald 3000 (gI s_9 12 0 5) 0).bind fun v_10 => bd (F12_longest_L90 x1 x2 x3 x4 x5 x6 v_10 fuelK s_9 12 12) fun r_16 s_17 => chk 3000 0 <| bnd (sI s_17 12 0 5 (Int32.toNatClampNeg 0) v_10) fun s_18 => bd (F12_fraction s_18 (gL s_18 12 0 0 35) (gL s_18 12 0 0 36)) fun v_19 s_20 => some (r_16, s_20)) else (bd (F12_refuse s_2 5) fun v_21 s_22 => some (v_21, s_22))) else (bd (F12_refuse s_2 5) fun v_7 s_8 => some (v_7, s_8))) else (bd (F12_refuse s_2 5) fun v_5 s_6 => some (v_5, s_6))) else (bd (F12_refuse s_2 2) fun v_23 s_24 => some (v_23, s_24))
set_option maxRecDepth 20000 in
theorem c12_longest {l : Launch} {D : va_G} {ad : Nat → Nat → Nat → Nat} {cid : Nat → Nat → Nat → ClassId} (σ : Mem) (x1 : Int32) (x2 : Int32) (x3 : Int32) (x4 : Int32) (x5 : Int32) (x6 : Int32) : AMF (XM l D ad cid) M12_longest 5 eI [.ref (ad 12 0 0), .int x1, .int x2, .int x3, .int x4, .int x5, .int x6] σ (F12_longest σ x1 x2 x3 x4 x5 x6) := by
  refine AM.ofW (by decide +kernel) (Nat.le_of_ble_eq_true rfl) (ls := [(0, .ref (ad 12 0 0)), (1, .int x1), (2, .int x2), (3, .int x3), (4, .int x4), (5, .int x5), (6, .int x6)]) rfl ?_
  refine aw_entry ?_
  unfold F12_longest
  refine aw_aload_n 0 dX12_longest_0 rfl rfl ?_
  refine aw_iconst 0 dX12_longest_1 (by decide) ?_
  refine aw_putI (fs_12_1 (by decide)) ci_12 (by decide) rfl rfl w_1457 dX12_longest_2 ?_
  refine aw_bndM (fun s_1 => ?_)
  refine aw_aload_n 0 dX12_longest_5 rfl rfl ?_
  refine aw_iconst 0 dX12_longest_6 (by decide) ?_
  refine aw_putI (fs_12_0 (by decide)) ci_12 (by decide) rfl rfl w_1456 dX12_longest_7 ?_
  refine aw_bndM (fun s_2 => ?_)
  refine aw_aload_n 0 dX12_longest_10 rfl rfl ?_
  refine aw_iload_n 1 dX12_longest_11 rfl rfl ?_
  refine aw_iload_n 2 dX12_longest_12 rfl rfl ?_
  refine aw_callVO_B (c12_isShot s_2 x1 x2) (io_12 (by decide)) ci_12 (by decide) mk_12_isShot w_2042 w_115 w_2040 rfl rfl (Nat.le_of_ble_eq_true rfl) dX12_longest_13 (fun v_3 => ?_)
  refine aw_bif_ne 25 dX12_longest_16 (by decide) ?_ ?_
  · refine aw_iload_n 3 dX12_longest_25 rfl rfl ?_
    refine aw_aload_n 0 dX12_longest_26 rfl rfl ?_
    refine aw_getf (fg_12_20 (by decide)) ci_12 (by decide) w_1476 dX12_longest_27 ?_
    refine aw_bipush 53 dX12_longest_30 (by decide) ?_
    refine aw_iload_n 1 dX12_longest_32 rfl rfl ?_
    refine aw_iadd dX12_longest_33 ?_
    refine aw_iaload (ar_12_5 (by decide)) dX12_longest_34 (fun v_4 => ?_)
    refine aw_callST_B (c12_isPuffing s_2 x3 v_4) (by decide) mk_12_isPuffing w_1961 w_1960 rfl rfl (Nat.le_of_ble_eq_true rfl) dX12_longest_35 ?_
    refine aw_bif_eq 64 dX12_longest_38 (by decide) ?_ ?_
    · refine aw_aload_n 0 dX12_longest_64 rfl rfl ?_
      refine aw_iconst 5 dX12_longest_65 (by decide) ?_
      refine aw_callVW_I (c12_refuse s_2 5) (io_12 (by decide)) ci_12 (by decide) mk_12_refuse w_1919 w_101 w_1917 rfl rfl (Nat.le_of_ble_eq_true rfl) dX12_longest_66 (fun v_5 s_6 => ?_)
      exact aw_ireturn rfl dX12_longest_69
    · refine aw_iload 4 dX12_longest_41 rfl ?_
      refine aw_i2l dX12_longest_43 ?_
      refine aw_lconst 0 dX12_longest_44 (by decide) ?_
      refine aw_ldc2 w_1979 dX12_longest_45 ?_
      refine aw_callST_B (c12_isIn s_2 (Int32.toInt64 x4) 0 3) (by decide) mk_12_isIn w_1752 w_1751 rfl rfl (Nat.le_of_ble_eq_true rfl) dX12_longest_48 ?_
      refine aw_bif_eq 64 dX12_longest_51 (by decide) ?_ ?_
      · refine aw_aload_n 0 dX12_longest_64 rfl rfl ?_
        refine aw_iconst 5 dX12_longest_65 (by decide) ?_
        refine aw_callVW_I (c12_refuse s_2 5) (io_12 (by decide)) ci_12 (by decide) mk_12_refuse w_1919 w_101 w_1917 rfl rfl (Nat.le_of_ble_eq_true rfl) dX12_longest_66 (fun v_7 s_8 => ?_)
        exact aw_ireturn rfl dX12_longest_69
      · refine aw_iload 5 dX12_longest_54 rfl ?_
        refine aw_iload 6 dX12_longest_56 rfl ?_
        refine aw_callST_B (c12_isAim s_2 x5 x6) (by decide) mk_12_isAim w_1994 w_1993 rfl rfl (Nat.le_of_ble_eq_true rfl) dX12_longest_58 ?_
        refine aw_bif_ne 70 dX12_longest_61 (by decide) ?_ ?_
        · refine aw_aload_n 0 dX12_longest_70 rfl rfl ?_
          refine aw_callVW_U (c12_noBest s_2 ) (io_12 (by decide)) ci_12 (by decide) mk_12_noBest w_2063 w_118 w_2061 rfl rfl (Nat.le_of_ble_eq_true rfl) dX12_longest_71 (fun _ s_9 => ?_)
          refine aw_aload_n 0 dX12_longest_74 rfl rfl ?_
          refine aw_getf (fg_12_20 (by decide)) ci_12 (by decide) w_1476 dX12_longest_75 ?_
          refine aw_iconst 0 dX12_longest_78 (by decide) ?_
          refine aw_iaload (ar_12_5 (by decide)) dX12_longest_79 (fun v_10 => ?_)
          refine aw_istore (ls' := [(0, .ref (ad 12 0 0)), (1, .int x1), (2, .int x2), (3, .int x3), (4, .int x4), (5, .int x5), (6, .int x6), (7, .int v_10)]) [1, 2, 3, 4, 5, 6, 7, 0] dX12_longest_80 (by decide) rfl ?_
          refine aw_bipush 12 dX12_longest_82 (by decide) ?_
          refine aw_istore (ls' := [(0, .ref (ad 12 0 0)), (1, .int x1), (2, .int x2), (3, .int x3), (4, .int x4), (5, .int x5), (6, .int x6), (7, .int v_10), (8, .int 12)]) [1, 2, 3, 4, 5, 6, 7, 8, 0] dX12_longest_84 (by decide) rfl ?_
          refine aw_bipush 12 dX12_longest_86 (by decide) ?_
          refine aw_istore (ls' := [(0, .ref (ad 12 0 0)), (1, .int x1), (2, .int x2), (3, .int x3), (4, .int x4), (5, .int x5), (6, .int x6), (7, .int v_10), (8, .int 12), (9, .int 12)]) [1, 2, 3, 4, 5, 6, 7, 8, 9, 0] dX12_longest_88 (by decide) rfl ?_
          refine aw_assocW ?_
          refine c12_longest_L90 x1 x2 x3 x4 x5 x6 v_10 (fun r_16 s_17 => ?_) fuelK s_9 12 12
          refine aw_aload_n 0 dX12_longest_142 rfl rfl ?_
          refine aw_getf (fg_12_20 (by decide)) ci_12 (by decide) w_1476 dX12_longest_143 ?_
          refine aw_iconst 0 dX12_longest_146 (by decide) ?_
          refine aw_iload 1 dX12_longest_147 rfl ?_
          refine aw_iastore (ar_12_5 (by decide)) dX12_longest_149 ?_
          refine aw_bndM (fun s_18 => ?_)
          refine aw_aload_n 0 dX12_longest_150 rfl rfl ?_
          refine aw_aload_n 0 dX12_longest_151 rfl rfl ?_
          refine aw_getf (fg_12_35 (by decide)) ci_12 (by decide) w_1491 dX12_longest_152 ?_
          refine aw_aload_n 0 dX12_longest_155 rfl rfl ?_
          refine aw_getf (fg_12_36 (by decide)) ci_12 (by decide) w_1492 dX12_longest_156 ?_
          refine aw_callVW_B (c12_fraction s_18 (gL s_18 12 0 0 35) (gL s_18 12 0 0 36)) (io_12 (by decide)) ci_12 (by decide) mk_12_fraction w_2050 w_117 w_2048 rfl rfl (Nat.le_of_ble_eq_true rfl) dX12_longest_159 (fun v_19 s_20 => ?_)
          refine aw_pop dX12_longest_162 rfl ?_
          refine aw_iload 2 dX12_longest_163 rfl ?_
          exact aw_ireturn rfl dX12_longest_165
        · refine aw_aload_n 0 dX12_longest_64 rfl rfl ?_
          refine aw_iconst 5 dX12_longest_65 (by decide) ?_
          refine aw_callVW_I (c12_refuse s_2 5) (io_12 (by decide)) ci_12 (by decide) mk_12_refuse w_1919 w_101 w_1917 rfl rfl (Nat.le_of_ble_eq_true rfl) dX12_longest_66 (fun v_21 s_22 => ?_)
          exact aw_ireturn rfl dX12_longest_69
  · refine aw_aload_n 0 dX12_longest_19 rfl rfl ?_
    refine aw_iconst 2 dX12_longest_20 (by decide) ?_
    refine aw_callVW_I (c12_refuse s_2 2) (io_12 (by decide)) ci_12 (by decide) mk_12_refuse w_1919 w_101 w_1917 rfl rfl (Nat.le_of_ble_eq_true rfl) dX12_longest_21 (fun v_23 s_24 => ?_)
    exact aw_ireturn rfl dX12_longest_24
