def F12_wipe (σ : Mem)  : Option (Int32 × Mem) :=
  bnd (sI σ 12 0 0 1 0) fun s_1 => bnd (sI s_1 12 0 0 0 0) fun s_2 => (ald 3000 (gI s_2 12 0 5) 7).bind fun v_3 => chk 3000 7 <| bnd (sI s_2 12 0 5 (Int32.toNatClampNeg 7) 0) fun s_4 => some (v_3, s_4)
set_option maxRecDepth 20000 in
theorem c12_wipe {l : Launch} {D : va_G} {ad : Nat → Nat → Nat → Nat} {cid : Nat → Nat → Nat → ClassId} (σ : Mem)  : AMF (XM l D ad cid) M12_wipe 0 eI [.ref (ad 12 0 0)] σ (F12_wipe σ) := by
  refine AM.ofW (by decide +kernel) (Nat.le_of_ble_eq_true rfl) (ls := [(0, .ref (ad 12 0 0))]) rfl ?_
  refine aw_entry ?_
  unfold F12_wipe
  refine aw_aload_n 0 dX12_wipe_0 rfl rfl ?_
  refine aw_iconst 0 dX12_wipe_1 (by decide) ?_
  refine aw_putI (fs_12_1 (by decide)) ci_12 (by decide) rfl rfl w_1459 dX12_wipe_2 ?_
  refine aw_bndM (fun s_1 => ?_)
  refine aw_aload_n 0 dX12_wipe_5 rfl rfl ?_
  refine aw_iconst 0 dX12_wipe_6 (by decide) ?_
  refine aw_putI (fs_12_0 (by decide)) ci_12 (by decide) rfl rfl w_1458 dX12_wipe_7 ?_
  refine aw_bndM (fun s_2 => ?_)
  refine aw_aload_n 0 dX12_wipe_10 rfl rfl ?_
  refine aw_getf (fg_12_20 (by decide)) ci_12 (by decide) w_1478 dX12_wipe_11 ?_
  refine aw_bipush 7 dX12_wipe_14 (by decide) ?_
  refine aw_iaload (ar_12_5 (by decide)) dX12_wipe_16 (fun v_3 => ?_)
  refine aw_istore_n (ls' := [(0, .ref (ad 12 0 0)), (1, .int v_3)]) [1, 0] dX12_wipe_17 rfl (by decide) rfl ?_
  refine aw_aload_n 0 dX12_wipe_18 rfl rfl ?_
  refine aw_getf (fg_12_20 (by decide)) ci_12 (by decide) w_1478 dX12_wipe_19 ?_
  refine aw_bipush 7 dX12_wipe_22 (by decide) ?_
  refine aw_iconst 0 dX12_wipe_24 (by decide) ?_
  refine aw_iastore (ar_12_5 (by decide)) dX12_wipe_25 ?_
  refine aw_bndM (fun s_4 => ?_)
  refine aw_iload_n 1 dX12_wipe_26 rfl rfl ?_
  exact aw_ireturn rfl dX12_wipe_27
def F12_draw (σ : Mem) (x1 : Int32) : Option (Int32 × Mem) :=
  bnd (sI σ 12 0 0 49 (iRem (((gI σ 12 0 0 49) * 2851) + 11027) 65536)) fun s_1 => if x1 = 0 then none else some ((iRem ((gI s_1 12 0 0 49) / 8) x1), s_1)
set_option maxRecDepth 20000 in
theorem c12_draw {l : Launch} {D : va_G} {ad : Nat → Nat → Nat → Nat} {cid : Nat → Nat → Nat → ClassId} (σ : Mem) (x1 : Int32) : AMF (XM l D ad cid) M12_draw 0 eI [.ref (ad 12 0 0), .int x1] σ (F12_draw σ x1) := by
  refine AM.ofW (by decide +kernel) (Nat.le_of_ble_eq_true rfl) (ls := [(0, .ref (ad 12 0 0)), (1, .int x1)]) rfl ?_
  refine aw_entry ?_
  unfold F12_draw
  refine aw_aload_n 0 dX12_draw_0 rfl rfl ?_
  refine aw_aload_n 0 dX12_draw_1 rfl rfl ?_
  refine aw_getf (fg_12_49 (by decide)) ci_12 (by decide) w_1507 dX12_draw_2 ?_
  refine aw_sipush 2851 dX12_draw_5 (by decide) ?_
  refine aw_imul dX12_draw_8 ?_
  refine aw_sipush 11027 dX12_draw_9 (by decide) ?_
  refine aw_iadd dX12_draw_12 ?_
  refine aw_ldcw w_2217 dX12_draw_13 ?_
  refine aw_irem_c dX12_draw_16 (by decide) ?_
  refine aw_putI (fs_12_49 (by decide)) ci_12 (by decide) rfl rfl w_1507 dX12_draw_17 ?_
  refine aw_bndM (fun s_1 => ?_)
  refine aw_aload_n 0 dX12_draw_20 rfl rfl ?_
  refine aw_getf (fg_12_49 (by decide)) ci_12 (by decide) w_1507 dX12_draw_21 ?_
  refine aw_bipush 8 dX12_draw_24 (by decide) ?_
  refine aw_idiv_c dX12_draw_26 (by decide) ?_
  refine aw_iload_n 1 dX12_draw_27 rfl rfl ?_
  refine aw_irem dX12_draw_28 ?_
  exact aw_ireturn rfl dX12_draw_29
def F12_drawHand (σ : Mem) (x1 : Int32) : Option (Int32 × Mem) :=
  if x1 = 0 then (some (0, σ)) else (bd (F12_draw σ ((2 * x1) + 1)) fun v_1 s_2 => some ((v_1 - x1), s_2))
set_option maxRecDepth 20000 in
theorem c12_drawHand {l : Launch} {D : va_G} {ad : Nat → Nat → Nat → Nat} {cid : Nat → Nat → Nat → ClassId} (σ : Mem) (x1 : Int32) : AMF (XM l D ad cid) M12_drawHand 1 eI [.ref (ad 12 0 0), .int x1] σ (F12_drawHand σ x1) := by
  refine AM.ofW (by decide +kernel) (Nat.le_of_ble_eq_true rfl) (ls := [(0, .ref (ad 12 0 0)), (1, .int x1)]) rfl ?_
  refine aw_entry ?_
  unfold F12_drawHand
  refine aw_iload_n 1 dX12_drawHand_0 rfl rfl ?_
  refine aw_if_ne 8 dX12_drawHand_1 (by decide) ?_ ?_
  · refine aw_aload_n 0 dX12_drawHand_8 rfl rfl ?_
    refine aw_iconst 2 dX12_drawHand_9 (by decide) ?_
    refine aw_iload_n 1 dX12_drawHand_10 rfl rfl ?_
    refine aw_imul dX12_drawHand_11 ?_
    refine aw_iconst 1 dX12_drawHand_12 (by decide) ?_
    refine aw_iadd dX12_drawHand_13 ?_
    refine aw_callVW_I (c12_draw σ ((2 * x1) + 1)) (io_12 (by decide)) ci_12 (by decide) mk_12_draw w_2215 w_136 w_2213 rfl rfl (Nat.le_of_ble_eq_true rfl) dX12_drawHand_14 (fun v_1 s_2 => ?_)
    refine aw_iload_n 1 dX12_drawHand_17 rfl rfl ?_
    refine aw_isub dX12_drawHand_18 ?_
    exact aw_ireturn rfl dX12_drawHand_19
  · refine aw_iconst 0 dX12_drawHand_4 (by decide) ?_
    refine aw_goto 19 dX12_drawHand_5 (by decide) ?_
    exact aw_ireturn rfl dX12_drawHand_19
def F12_shootsBy_p127 (σ : Mem) (x1 : Int32) (x3 : Int32) (x4 : Int32) (q0 : Int32) : Option (Bool × Mem) :=
  bnd (sI σ 12 0 0 52 ((gI σ 12 0 0 52) + 1)) fun s_15 => bd (F12_shoots s_15 x1 (gI s_15 12 0 0 56) (gI s_15 12 0 0 57) (gI s_15 12 0 0 58) q0 x3 x4) fun v_16 s_17 => bnd (sI s_17 12 0 0 54 ((gI s_15 12 0 0 54) + v_16)) fun s_18 => some (true, s_18)
set_option maxRecDepth 20000 in
theorem c12_shootsBy_p127 {l : Launch} {D : va_G} {ad : Nat → Nat → Nat → Nat} {cid : Nat → Nat → Nat → ClassId} (σ : Mem) (x1 : Int32) (x3 : Int32) (x4 : Int32) (q0 : Int32) : AW (XM l D ad cid) M12_shootsBy 4 eB [(0, .ref (ad 12 0 0)), (1, .int x1), (3, .int x3), (4, .int x4)] 127 [.int q0] σ ((F12_shootsBy_p127 σ x1 x3 x4 q0).bind some) := by
  unfold F12_shootsBy_p127
  refine aw_istore (ls' := [(0, .ref (ad 12 0 0)), (1, .int x1), (3, .int x3), (4, .int x4), (5, .int q0)]) [1, 2, 3, 4, 0] dX12_shootsBy_127 (by decide) rfl ?_
  refine aw_aload_n 0 dX12_shootsBy_129 rfl rfl ?_
  refine aw_dup dX12_shootsBy_130 rfl ?_
  refine aw_getf (fg_12_52 (by decide)) ci_12 (by decide) w_1510 dX12_shootsBy_131 ?_
  refine aw_iconst 1 dX12_shootsBy_134 (by decide) ?_
  refine aw_iadd dX12_shootsBy_135 ?_
  refine aw_putI (fs_12_52 (by decide)) ci_12 (by decide) rfl rfl w_1510 dX12_shootsBy_136 ?_
  refine aw_bndM (fun s_15 => ?_)
  refine aw_aload_n 0 dX12_shootsBy_139 rfl rfl ?_
  refine aw_dup dX12_shootsBy_140 rfl ?_
  refine aw_getf (fg_12_54 (by decide)) ci_12 (by decide) w_1512 dX12_shootsBy_141 ?_
  refine aw_aload_n 0 dX12_shootsBy_144 rfl rfl ?_
  refine aw_iload_n 1 dX12_shootsBy_145 rfl rfl ?_
  refine aw_aload_n 0 dX12_shootsBy_146 rfl rfl ?_
  refine aw_getf (fg_12_56 (by decide)) ci_12 (by decide) w_1514 dX12_shootsBy_147 ?_
  refine aw_aload_n 0 dX12_shootsBy_150 rfl rfl ?_
  refine aw_getf (fg_12_57 (by decide)) ci_12 (by decide) w_1515 dX12_shootsBy_151 ?_
  refine aw_aload_n 0 dX12_shootsBy_154 rfl rfl ?_
  refine aw_getf (fg_12_58 (by decide)) ci_12 (by decide) w_1516 dX12_shootsBy_155 ?_
  refine aw_iload 4 dX12_shootsBy_158 rfl ?_
  refine aw_iload_n 2 dX12_shootsBy_160 rfl rfl ?_
  refine aw_iload 3 dX12_shootsBy_161 rfl ?_
  refine aw_callVW_I (c12_shoots s_15 x1 (gI s_15 12 0 0 56) (gI s_15 12 0 0 57) (gI s_15 12 0 0 58) q0 x3 x4) (io_12 (by decide)) ci_12 (by decide) mk_12_shoots w_2178 w_129 w_2176 rfl rfl (Nat.le_of_ble_eq_true rfl) dX12_shootsBy_163 (fun v_16 s_17 => ?_)
  refine aw_iadd dX12_shootsBy_166 ?_
  refine aw_putI (fs_12_54 (by decide)) ci_12 (by decide) rfl rfl w_1512 dX12_shootsBy_167 ?_
  refine aw_bndM (fun s_18 => ?_)
  refine aw_iconst 1 dX12_shootsBy_170 (by decide) ?_
  exact aw_zreturn (b := true) rfl rfl dX12_shootsBy_171
def F12_shootsBy (σ : Mem) (x1 : Int32) : Option (Bool × Mem) :=
  (ald 3000 (gI σ 12 0 5) 5).bind fun v_1 => if v_1 = 0 then (some (false, σ)) else ((F12_fitOf σ (gI σ 12 0 0 56)).bind fun v_2 => if v_2 < 0 then (some (false, σ)) else ((ald 3000 (gI σ 12 0 5) 8).bind fun v_3 => if v_3 = 60 then (some (false, σ)) else ((ald 3000 (gI σ 12 0 5) (53 + x1)).bind fun v_4 => (ald 3000 (gI σ 12 0 5) 7).bind fun v_5 => bd (F12_flies σ (gI σ 12 0 0 56) (iMin (gI σ 12 0 0 59) v_4) v_5) fun v_6 s_7 => if v_6 = true then ((F12_handOf s_7 x1 (gI s_7 12 0 0 60)).bind fun v_8 => bd (F12_drawHand s_7 v_8) fun v_9 s_10 => bd (F12_drawHand s_10 v_8) fun v_11 s_12 => if (gI s_12 12 0 0 31) = 0 then (F12_shootsBy_p127 s_12 x1 v_9 v_11 0) else (bd (F12_draw s_12 2) fun v_13 s_14 => if v_13 = 0 then (F12_shootsBy_p127 s_14 x1 v_9 v_11 1) else (F12_shootsBy_p127 s_14 x1 v_9 v_11 (-1)))) else (bnd (sI s_7 12 0 0 53 ((gI s_7 12 0 0 53) + 1)) fun s_19 => some (true, s_19)))))
set_option maxRecDepth 20000 in
theorem c12_shootsBy {l : Launch} {D : va_G} {ad : Nat → Nat → Nat → Nat} {cid : Nat → Nat → Nat → ClassId} (σ : Mem) (x1 : Int32) : AMF (XM l D ad cid) M12_shootsBy 4 eB [.ref (ad 12 0 0), .int x1] σ (F12_shootsBy σ x1) := by
  refine AM.ofW (by decide +kernel) (Nat.le_of_ble_eq_true rfl) (ls := [(0, .ref (ad 12 0 0)), (1, .int x1)]) rfl ?_
  refine aw_entry ?_
  unfold F12_shootsBy
  refine aw_aload_n 0 dX12_shootsBy_0 rfl rfl ?_
  refine aw_getf (fg_12_20 (by decide)) ci_12 (by decide) w_1478 dX12_shootsBy_1 ?_
  refine aw_iconst 5 dX12_shootsBy_4 (by decide) ?_
  refine aw_iaload (ar_12_5 (by decide)) dX12_shootsBy_5 (fun v_1 => ?_)
  refine aw_if_eq 32 dX12_shootsBy_6 (by decide) ?_ ?_
  · refine aw_iconst 0 dX12_shootsBy_32 (by decide) ?_
    exact aw_zreturn (b := false) rfl rfl dX12_shootsBy_33
  · refine aw_aload_n 0 dX12_shootsBy_9 rfl rfl ?_
    refine aw_aload_n 0 dX12_shootsBy_10 rfl rfl ?_
    refine aw_getf (fg_12_56 (by decide)) ci_12 (by decide) w_1514 dX12_shootsBy_11 ?_
    refine aw_callVO_I (c12_fitOf σ (gI σ 12 0 0 56)) (io_12 (by decide)) ci_12 (by decide) mk_12_fitOf w_1937 w_103 w_1935 rfl rfl (Nat.le_of_ble_eq_true rfl) dX12_shootsBy_14 (fun v_2 => ?_)
    refine aw_if_lt 32 dX12_shootsBy_17 (by decide) ?_ ?_
    · refine aw_iconst 0 dX12_shootsBy_32 (by decide) ?_
      exact aw_zreturn (b := false) rfl rfl dX12_shootsBy_33
    · refine aw_aload_n 0 dX12_shootsBy_20 rfl rfl ?_
      refine aw_getf (fg_12_20 (by decide)) ci_12 (by decide) w_1478 dX12_shootsBy_21 ?_
      refine aw_bipush 8 dX12_shootsBy_24 (by decide) ?_
      refine aw_iaload (ar_12_5 (by decide)) dX12_shootsBy_26 (fun v_3 => ?_)
      refine aw_bipush 60 dX12_shootsBy_27 (by decide) ?_
      refine aw_icmp_ne 34 dX12_shootsBy_29 (by decide) ?_ ?_
      · refine aw_aload_n 0 dX12_shootsBy_34 rfl rfl ?_
        refine aw_aload_n 0 dX12_shootsBy_35 rfl rfl ?_
        refine aw_getf (fg_12_56 (by decide)) ci_12 (by decide) w_1514 dX12_shootsBy_36 ?_
        refine aw_aload_n 0 dX12_shootsBy_39 rfl rfl ?_
        refine aw_getf (fg_12_59 (by decide)) ci_12 (by decide) w_1517 dX12_shootsBy_40 ?_
        refine aw_aload_n 0 dX12_shootsBy_43 rfl rfl ?_
        refine aw_getf (fg_12_20 (by decide)) ci_12 (by decide) w_1478 dX12_shootsBy_44 ?_
        refine aw_bipush 53 dX12_shootsBy_47 (by decide) ?_
        refine aw_iload_n 1 dX12_shootsBy_49 rfl rfl ?_
        refine aw_iadd dX12_shootsBy_50 ?_
        refine aw_iaload (ar_12_5 (by decide)) dX12_shootsBy_51 (fun v_4 => ?_)
        refine aw_min w_2037 w_864 w_159 w_865 (Nat.le_of_ble_eq_true rfl) dX12_shootsBy_52 ?_
        refine aw_aload_n 0 dX12_shootsBy_55 rfl rfl ?_
        refine aw_getf (fg_12_20 (by decide)) ci_12 (by decide) w_1478 dX12_shootsBy_56 ?_
        refine aw_bipush 7 dX12_shootsBy_59 (by decide) ?_
        refine aw_iaload (ar_12_5 (by decide)) dX12_shootsBy_61 (fun v_5 => ?_)
        refine aw_callVW_B (c12_flies σ (gI σ 12 0 0 56) (iMin (gI σ 12 0 0 59) v_4) v_5) (io_12 (by decide)) ci_12 (by decide) mk_12_flies w_1984 w_109 w_1982 rfl rfl (Nat.le_of_ble_eq_true rfl) dX12_shootsBy_62 (fun v_6 s_7 => ?_)
        refine aw_bif_ne 80 dX12_shootsBy_65 (by decide) ?_ ?_
        · refine aw_aload_n 0 dX12_shootsBy_80 rfl rfl ?_
          refine aw_iload_n 1 dX12_shootsBy_81 rfl rfl ?_
          refine aw_aload_n 0 dX12_shootsBy_82 rfl rfl ?_
          refine aw_getf (fg_12_60 (by decide)) ci_12 (by decide) w_1518 dX12_shootsBy_83 ?_
          refine aw_callVO_I (c12_handOf s_7 x1 (gI s_7 12 0 0 60)) (io_12 (by decide)) ci_12 (by decide) mk_12_handOf w_2035 w_114 w_2033 rfl rfl (Nat.le_of_ble_eq_true rfl) dX12_shootsBy_86 (fun v_8 => ?_)
          refine aw_istore_n (ls' := [(0, .ref (ad 12 0 0)), (1, .int x1), (2, .int v_8)]) [1, 2, 0] dX12_shootsBy_89 rfl (by decide) rfl ?_
          refine aw_aload_n 0 dX12_shootsBy_90 rfl rfl ?_
          refine aw_iload_n 2 dX12_shootsBy_91 rfl rfl ?_
          refine aw_callVW_I (c12_drawHand s_7 v_8) (io_12 (by decide)) ci_12 (by decide) mk_12_drawHand w_2211 w_135 w_2209 rfl rfl (Nat.le_of_ble_eq_true rfl) dX12_shootsBy_92 (fun v_9 s_10 => ?_)
          refine aw_istore_n (ls' := [(0, .ref (ad 12 0 0)), (1, .int x1), (2, .int v_8), (3, .int v_9)]) [1, 2, 3, 0] dX12_shootsBy_95 rfl (by decide) rfl ?_
          refine aw_aload_n 0 dX12_shootsBy_96 rfl rfl ?_
          refine aw_iload_n 2 dX12_shootsBy_97 rfl rfl ?_
          refine aw_callVW_I (c12_drawHand s_10 v_8) (io_12 (by decide)) ci_12 (by decide) mk_12_drawHand w_2211 w_135 w_2209 rfl rfl (Nat.le_of_ble_eq_true rfl) dX12_shootsBy_98 (fun v_11 s_12 => ?_)
          refine aw_istore (ls' := [(0, .ref (ad 12 0 0)), (1, .int x1), (3, .int v_9), (4, .int v_11)]) [1, 2, 4, 0] dX12_shootsBy_101 (by decide) rfl ?_
          refine aw_aload_n 0 dX12_shootsBy_103 rfl rfl ?_
          refine aw_getf (fg_12_31 (by decide)) ci_12 (by decide) w_1489 dX12_shootsBy_104 ?_
          refine aw_if_ne 114 dX12_shootsBy_107 (by decide) ?_ ?_
          · refine aw_aload_n 0 dX12_shootsBy_114 rfl rfl ?_
            refine aw_iconst 2 dX12_shootsBy_115 (by decide) ?_
            refine aw_callVW_I (c12_draw s_12 2) (io_12 (by decide)) ci_12 (by decide) mk_12_draw w_2215 w_136 w_2213 rfl rfl (Nat.le_of_ble_eq_true rfl) dX12_shootsBy_116 (fun v_13 s_14 => ?_)
            refine aw_if_ne 126 dX12_shootsBy_119 (by decide) ?_ ?_
            · refine aw_iconst (-1) dX12_shootsBy_126 (by decide) ?_
              exact c12_shootsBy_p127 s_14 x1 v_9 v_11 (-1)
            · refine aw_iconst 1 dX12_shootsBy_122 (by decide) ?_
              refine aw_goto 127 dX12_shootsBy_123 (by decide) ?_
              exact c12_shootsBy_p127 s_14 x1 v_9 v_11 1
          · refine aw_iconst 0 dX12_shootsBy_110 (by decide) ?_
            refine aw_goto 127 dX12_shootsBy_111 (by decide) ?_
            exact c12_shootsBy_p127 s_12 x1 v_9 v_11 0
        · refine aw_aload_n 0 dX12_shootsBy_68 rfl rfl ?_
          refine aw_dup dX12_shootsBy_69 rfl ?_
          refine aw_getf (fg_12_53 (by decide)) ci_12 (by decide) w_1511 dX12_shootsBy_70 ?_
          refine aw_iconst 1 dX12_shootsBy_73 (by decide) ?_
          refine aw_iadd dX12_shootsBy_74 ?_
          refine aw_putI (fs_12_53 (by decide)) ci_12 (by decide) rfl rfl w_1511 dX12_shootsBy_75 ?_
          refine aw_bndM (fun s_19 => ?_)
          refine aw_iconst 1 dX12_shootsBy_78 (by decide) ?_
          exact aw_zreturn (b := true) rfl rfl dX12_shootsBy_79
      · refine aw_iconst 0 dX12_shootsBy_32 (by decide) ?_
        exact aw_zreturn (b := false) rfl rfl dX12_shootsBy_33
def F12_does (σ : Mem) (x1 : Int32) : Option (Bool × Mem) :=
  (ald 3000 (gI σ 12 0 5) x1).bind fun v_1 => if v_1 = 4 then ((ald 3000 (gI σ 12 0 5) (x1 + 1)).bind fun v_16 => bd (F12_shootsBy σ v_16) fun v_17 s_18 => some (v_17, s_18)) else (if v_1 = 0 then ((ald 3000 (gI σ 12 0 5) (x1 + 1)).bind fun v_14 => bnd (sI σ 12 0 0 56 v_14) fun s_15 => some (true, s_15)) else (if v_1 = 1 then ((ald 3000 (gI σ 12 0 5) (x1 + 1)).bind fun v_10 => bnd (sI σ 12 0 0 57 v_10) fun s_11 => (ald 3000 (gI s_11 12 0 5) (x1 + 2)).bind fun v_12 => bnd (sI s_11 12 0 0 58 v_12) fun s_13 => some (true, s_13)) else (if v_1 = 2 then ((ald 3000 (gI σ 12 0 5) (x1 + 1)).bind fun v_8 => bnd (sI σ 12 0 0 59 v_8) fun s_9 => some (true, s_9)) else (if v_1 = 3 then ((ald 3000 (gI σ 12 0 5) (x1 + 1)).bind fun v_6 => bnd (sI σ 12 0 0 60 v_6) fun s_7 => some (true, s_7)) else (if v_1 = 5 then (chk 3000 7 <| bnd (sI σ 12 0 5 (Int32.toNatClampNeg 7) 0) fun s_5 => some (true, s_5)) else ((ald 3000 (gI σ 12 0 5) 5).bind fun v_2 => if v_2 = 0 then (some (false, σ)) else ((ald 3000 (gI σ 12 0 5) 5).bind fun v_3 => if v_3 = 0 then none else bnd (sI σ 12 0 0 56 (iRem ((gI σ 12 0 0 56) + 1) v_3)) fun s_4 => some (true, s_4))))))))
set_option maxRecDepth 20000 in
theorem c12_does {l : Launch} {D : va_G} {ad : Nat → Nat → Nat → Nat} {cid : Nat → Nat → Nat → ClassId} (σ : Mem) (x1 : Int32) : AMF (XM l D ad cid) M12_does 5 eB [.ref (ad 12 0 0), .int x1] σ (F12_does σ x1) := by
  refine AM.ofW (by decide +kernel) (Nat.le_of_ble_eq_true rfl) (ls := [(0, .ref (ad 12 0 0)), (1, .int x1)]) rfl ?_
  refine aw_entry ?_
  unfold F12_does
  refine aw_aload_n 0 dX12_does_0 rfl rfl ?_
  refine aw_getf (fg_12_20 (by decide)) ci_12 (by decide) w_1478 dX12_does_1 ?_
  refine aw_iload_n 1 dX12_does_4 rfl rfl ?_
  refine aw_iaload (ar_12_5 (by decide)) dX12_does_5 (fun v_1 => ?_)
  refine aw_istore_n (ls' := [(0, .ref (ad 12 0 0)), (1, .int x1), (2, .int v_1)]) [1, 2, 0] dX12_does_6 rfl (by decide) rfl ?_
  refine aw_iload_n 2 dX12_does_7 rfl rfl ?_
  refine aw_iconst 4 dX12_does_8 (by decide) ?_
  refine aw_icmp_ne 25 dX12_does_9 (by decide) ?_ ?_
  · refine aw_iload_n 2 dX12_does_25 rfl rfl ?_
    refine aw_if_ne 44 dX12_does_26 (by decide) ?_ ?_
    · refine aw_iload_n 2 dX12_does_44 rfl rfl ?_
      refine aw_iconst 1 dX12_does_45 (by decide) ?_
      refine aw_icmp_ne 76 dX12_does_46 (by decide) ?_ ?_
      · refine aw_iload_n 2 dX12_does_76 rfl rfl ?_
        refine aw_iconst 2 dX12_does_77 (by decide) ?_
        refine aw_icmp_ne 96 dX12_does_78 (by decide) ?_ ?_
        · refine aw_iload_n 2 dX12_does_96 rfl rfl ?_
          refine aw_iconst 3 dX12_does_97 (by decide) ?_
          refine aw_icmp_ne 116 dX12_does_98 (by decide) ?_ ?_
          · refine aw_iload_n 2 dX12_does_116 rfl rfl ?_
            refine aw_iconst 5 dX12_does_117 (by decide) ?_
            refine aw_icmp_ne 132 dX12_does_118 (by decide) ?_ ?_
            · refine aw_aload_n 0 dX12_does_132 rfl rfl ?_
              refine aw_getf (fg_12_20 (by decide)) ci_12 (by decide) w_1478 dX12_does_133 ?_
              refine aw_iconst 5 dX12_does_136 (by decide) ?_
              refine aw_iaload (ar_12_5 (by decide)) dX12_does_137 (fun v_2 => ?_)
              refine aw_if_ne 143 dX12_does_138 (by decide) ?_ ?_
              · refine aw_aload_n 0 dX12_does_143 rfl rfl ?_
                refine aw_aload_n 0 dX12_does_144 rfl rfl ?_
                refine aw_getf (fg_12_56 (by decide)) ci_12 (by decide) w_1514 dX12_does_145 ?_
                refine aw_iconst 1 dX12_does_148 (by decide) ?_
                refine aw_iadd dX12_does_149 ?_
                refine aw_aload_n 0 dX12_does_150 rfl rfl ?_
                refine aw_getf (fg_12_20 (by decide)) ci_12 (by decide) w_1478 dX12_does_151 ?_
                refine aw_iconst 5 dX12_does_154 (by decide) ?_
                refine aw_iaload (ar_12_5 (by decide)) dX12_does_155 (fun v_3 => ?_)
                refine aw_irem dX12_does_156 ?_
                refine aw_putI (fs_12_56 (by decide)) ci_12 (by decide) rfl rfl w_1514 dX12_does_157 ?_
                refine aw_bndM (fun s_4 => ?_)
                refine aw_iconst 1 dX12_does_160 (by decide) ?_
                exact aw_zreturn (b := true) rfl rfl dX12_does_161
              · refine aw_iconst 0 dX12_does_141 (by decide) ?_
                exact aw_zreturn (b := false) rfl rfl dX12_does_142
            · refine aw_aload_n 0 dX12_does_121 rfl rfl ?_
              refine aw_getf (fg_12_20 (by decide)) ci_12 (by decide) w_1478 dX12_does_122 ?_
              refine aw_bipush 7 dX12_does_125 (by decide) ?_
              refine aw_iconst 0 dX12_does_127 (by decide) ?_
              refine aw_iastore (ar_12_5 (by decide)) dX12_does_128 ?_
              refine aw_bndM (fun s_5 => ?_)
              refine aw_goto 160 dX12_does_129 (by decide) ?_
              refine aw_iconst 1 dX12_does_160 (by decide) ?_
              exact aw_zreturn (b := true) rfl rfl dX12_does_161
          · refine aw_aload_n 0 dX12_does_101 rfl rfl ?_
            refine aw_aload_n 0 dX12_does_102 rfl rfl ?_
            refine aw_getf (fg_12_20 (by decide)) ci_12 (by decide) w_1478 dX12_does_103 ?_
            refine aw_iload_n 1 dX12_does_106 rfl rfl ?_
            refine aw_iconst 1 dX12_does_107 (by decide) ?_
            refine aw_iadd dX12_does_108 ?_
            refine aw_iaload (ar_12_5 (by decide)) dX12_does_109 (fun v_6 => ?_)
            refine aw_putI (fs_12_60 (by decide)) ci_12 (by decide) rfl rfl w_1518 dX12_does_110 ?_
            refine aw_bndM (fun s_7 => ?_)
            refine aw_goto 160 dX12_does_113 (by decide) ?_
            refine aw_iconst 1 dX12_does_160 (by decide) ?_
            exact aw_zreturn (b := true) rfl rfl dX12_does_161
        · refine aw_aload_n 0 dX12_does_81 rfl rfl ?_
          refine aw_aload_n 0 dX12_does_82 rfl rfl ?_
          refine aw_getf (fg_12_20 (by decide)) ci_12 (by decide) w_1478 dX12_does_83 ?_
          refine aw_iload_n 1 dX12_does_86 rfl rfl ?_
          refine aw_iconst 1 dX12_does_87 (by decide) ?_
          refine aw_iadd dX12_does_88 ?_
          refine aw_iaload (ar_12_5 (by decide)) dX12_does_89 (fun v_8 => ?_)
          refine aw_putI (fs_12_59 (by decide)) ci_12 (by decide) rfl rfl w_1517 dX12_does_90 ?_
          refine aw_bndM (fun s_9 => ?_)
          refine aw_goto 160 dX12_does_93 (by decide) ?_
          refine aw_iconst 1 dX12_does_160 (by decide) ?_
          exact aw_zreturn (b := true) rfl rfl dX12_does_161
      · refine aw_aload_n 0 dX12_does_49 rfl rfl ?_
        refine aw_aload_n 0 dX12_does_50 rfl rfl ?_
        refine aw_getf (fg_12_20 (by decide)) ci_12 (by decide) w_1478 dX12_does_51 ?_
        refine aw_iload_n 1 dX12_does_54 rfl rfl ?_
        refine aw_iconst 1 dX12_does_55 (by decide) ?_
        refine aw_iadd dX12_does_56 ?_
        refine aw_iaload (ar_12_5 (by decide)) dX12_does_57 (fun v_10 => ?_)
        refine aw_putI (fs_12_57 (by decide)) ci_12 (by decide) rfl rfl w_1515 dX12_does_58 ?_
        refine aw_bndM (fun s_11 => ?_)
        refine aw_aload_n 0 dX12_does_61 rfl rfl ?_
        refine aw_aload_n 0 dX12_does_62 rfl rfl ?_
        refine aw_getf (fg_12_20 (by decide)) ci_12 (by decide) w_1478 dX12_does_63 ?_
        refine aw_iload_n 1 dX12_does_66 rfl rfl ?_
        refine aw_iconst 2 dX12_does_67 (by decide) ?_
        refine aw_iadd dX12_does_68 ?_
        refine aw_iaload (ar_12_5 (by decide)) dX12_does_69 (fun v_12 => ?_)
        refine aw_putI (fs_12_58 (by decide)) ci_12 (by decide) rfl rfl w_1516 dX12_does_70 ?_
        refine aw_bndM (fun s_13 => ?_)
        refine aw_goto 160 dX12_does_73 (by decide) ?_
        refine aw_iconst 1 dX12_does_160 (by decide) ?_
        exact aw_zreturn (b := true) rfl rfl dX12_does_161
    · refine aw_aload_n 0 dX12_does_29 rfl rfl ?_
      refine aw_aload_n 0 dX12_does_30 rfl rfl ?_
      refine aw_getf (fg_12_20 (by decide)) ci_12 (by decide) w_1478 dX12_does_31 ?_
      refine aw_iload_n 1 dX12_does_34 rfl rfl ?_
      refine aw_iconst 1 dX12_does_35 (by decide) ?_
      refine aw_iadd dX12_does_36 ?_
      refine aw_iaload (ar_12_5 (by decide)) dX12_does_37 (fun v_14 => ?_)
      refine aw_putI (fs_12_56 (by decide)) ci_12 (by decide) rfl rfl w_1514 dX12_does_38 ?_
      refine aw_bndM (fun s_15 => ?_)
      refine aw_goto 160 dX12_does_41 (by decide) ?_
      refine aw_iconst 1 dX12_does_160 (by decide) ?_
      exact aw_zreturn (b := true) rfl rfl dX12_does_161
  · refine aw_aload_n 0 dX12_does_12 rfl rfl ?_
    refine aw_aload_n 0 dX12_does_13 rfl rfl ?_
    refine aw_getf (fg_12_20 (by decide)) ci_12 (by decide) w_1478 dX12_does_14 ?_
    refine aw_iload_n 1 dX12_does_17 rfl rfl ?_
    refine aw_iconst 1 dX12_does_18 (by decide) ?_
    refine aw_iadd dX12_does_19 ?_
    refine aw_iaload (ar_12_5 (by decide)) dX12_does_20 (fun v_16 => ?_)
    refine aw_callVW_B (c12_shootsBy σ v_16) (io_12 (by decide)) ci_12 (by decide) mk_12_shootsBy w_2207 w_134 w_2205 rfl rfl (Nat.le_of_ble_eq_true rfl) dX12_does_21 (fun v_17 s_18 => ?_)
    exact aw_zreturn (b := v_17) rfl rfl dX12_does_24
def F12_isSo_p55 (σ : Mem) (x1 : Int32) (q0 : Int32) : Option Bool :=
  (ald 3000 (gI σ 12 0 5) (x1 + 7)).bind fun v_3 => if v_3 = 60 then ((ald 3000 (gI σ 12 0 5) (x1 + 2)).bind fun v_7 => if v_7 ≤ q0 then (some false) else (some true)) else ((ald 3000 (gI σ 12 0 5) (x1 + 7)).bind fun v_4 => if v_4 = 62 then ((ald 3000 (gI σ 12 0 5) (x1 + 2)).bind fun v_6 => if q0 ≤ v_6 then (some false) else (some true)) else ((ald 3000 (gI σ 12 0 5) (x1 + 2)).bind fun v_5 => if q0 = v_5 then (some true) else (some false)))
set_option maxRecDepth 20000 in
theorem c12_isSo_p55 {l : Launch} {D : va_G} {ad : Nat → Nat → Nat → Nat} {cid : Nat → Nat → Nat → ClassId} (σ : Mem) (x1 : Int32) (q0 : Int32) : AW (XM l D ad cid) M12_isSo 0 eB [(0, .ref (ad 12 0 0)), (1, .int x1)] 55 [.int q0] σ ((F12_isSo_p55 σ x1 q0).bind (fun v => some (v, σ))) := by
  unfold F12_isSo_p55
  refine aw_istore_n (ls' := [(0, .ref (ad 12 0 0)), (1, .int x1), (3, .int q0)]) [1, 2, 0] dX12_isSo_55 rfl (by decide) rfl ?_
  refine aw_aload_n 0 dX12_isSo_56 rfl rfl ?_
  refine aw_getf (fg_12_20 (by decide)) ci_12 (by decide) w_1478 dX12_isSo_57 ?_
  refine aw_iload_n 1 dX12_isSo_60 rfl rfl ?_
  refine aw_bipush 7 dX12_isSo_61 (by decide) ?_
  refine aw_iadd dX12_isSo_63 ?_
  refine aw_iaload (ar_12_5 (by decide)) dX12_isSo_64 (fun v_3 => ?_)
  refine aw_bipush 60 dX12_isSo_65 (by decide) ?_
  refine aw_icmp_ne 90 dX12_isSo_67 (by decide) ?_ ?_
  · refine aw_aload_n 0 dX12_isSo_90 rfl rfl ?_
    refine aw_getf (fg_12_20 (by decide)) ci_12 (by decide) w_1478 dX12_isSo_91 ?_
    refine aw_iload_n 1 dX12_isSo_94 rfl rfl ?_
    refine aw_bipush 7 dX12_isSo_95 (by decide) ?_
    refine aw_iadd dX12_isSo_97 ?_
    refine aw_iaload (ar_12_5 (by decide)) dX12_isSo_98 (fun v_4 => ?_)
    refine aw_bipush 62 dX12_isSo_99 (by decide) ?_
    refine aw_icmp_ne 124 dX12_isSo_101 (by decide) ?_ ?_
    · refine aw_iload_n 2 dX12_isSo_124 rfl rfl ?_
      refine aw_aload_n 0 dX12_isSo_125 rfl rfl ?_
      refine aw_getf (fg_12_20 (by decide)) ci_12 (by decide) w_1478 dX12_isSo_126 ?_
      refine aw_iload_n 1 dX12_isSo_129 rfl rfl ?_
      refine aw_iconst 2 dX12_isSo_130 (by decide) ?_
      refine aw_iadd dX12_isSo_131 ?_
      refine aw_iaload (ar_12_5 (by decide)) dX12_isSo_132 (fun v_5 => ?_)
      refine aw_icmp_ne 140 dX12_isSo_133 (by decide) ?_ ?_
      · refine aw_iconst 0 dX12_isSo_140 (by decide) ?_
        exact aw_zreturn (b := false) rfl rfl dX12_isSo_141
      · refine aw_iconst 1 dX12_isSo_136 (by decide) ?_
        refine aw_goto 141 dX12_isSo_137 (by decide) ?_
        exact aw_zreturn (b := true) rfl rfl dX12_isSo_141
    · refine aw_iload_n 2 dX12_isSo_104 rfl rfl ?_
      refine aw_aload_n 0 dX12_isSo_105 rfl rfl ?_
      refine aw_getf (fg_12_20 (by decide)) ci_12 (by decide) w_1478 dX12_isSo_106 ?_
      refine aw_iload_n 1 dX12_isSo_109 rfl rfl ?_
      refine aw_iconst 2 dX12_isSo_110 (by decide) ?_
      refine aw_iadd dX12_isSo_111 ?_
      refine aw_iaload (ar_12_5 (by decide)) dX12_isSo_112 (fun v_6 => ?_)
      refine aw_icmp_le 120 dX12_isSo_113 (by decide) ?_ ?_
      · refine aw_iconst 0 dX12_isSo_120 (by decide) ?_
        refine aw_goto 141 dX12_isSo_121 (by decide) ?_
        exact aw_zreturn (b := false) rfl rfl dX12_isSo_141
      · refine aw_iconst 1 dX12_isSo_116 (by decide) ?_
        refine aw_goto 141 dX12_isSo_117 (by decide) ?_
        exact aw_zreturn (b := true) rfl rfl dX12_isSo_141
  · refine aw_iload_n 2 dX12_isSo_70 rfl rfl ?_
    refine aw_aload_n 0 dX12_isSo_71 rfl rfl ?_
    refine aw_getf (fg_12_20 (by decide)) ci_12 (by decide) w_1478 dX12_isSo_72 ?_
    refine aw_iload_n 1 dX12_isSo_75 rfl rfl ?_
    refine aw_iconst 2 dX12_isSo_76 (by decide) ?_
    refine aw_iadd dX12_isSo_77 ?_
    refine aw_iaload (ar_12_5 (by decide)) dX12_isSo_78 (fun v_7 => ?_)
    refine aw_icmp_ge 86 dX12_isSo_79 (by decide) ?_ ?_
    · refine aw_iconst 0 dX12_isSo_86 (by decide) ?_
      refine aw_goto 141 dX12_isSo_87 (by decide) ?_
      exact aw_zreturn (b := false) rfl rfl dX12_isSo_141
    · refine aw_iconst 1 dX12_isSo_82 (by decide) ?_
      refine aw_goto 141 dX12_isSo_83 (by decide) ?_
      exact aw_zreturn (b := true) rfl rfl dX12_isSo_141
def F12_isSo (σ : Mem) (x1 : Int32) : Option Bool :=
  (ald 3000 (gI σ 12 0 5) (x1 + 6)).bind fun v_1 => if v_1 = 0 then ((ald 3000 (gI σ 12 0 5) (x1 + 1)).bind fun v_9 => (ald 3000 (gI σ 12 0 5) (77 + v_9)).bind fun v_10 => F12_isSo_p55 σ x1 v_10) else (if v_1 = 1 then ((ald 3000 (gI σ 12 0 5) 8).bind fun v_8 => F12_isSo_p55 σ x1 v_8) else ((ald 3000 (gI σ 12 0 5) 7).bind fun v_2 => F12_isSo_p55 σ x1 v_2))
set_option maxRecDepth 20000 in
theorem c12_isSo {l : Launch} {D : va_G} {ad : Nat → Nat → Nat → Nat} {cid : Nat → Nat → Nat → ClassId} (σ : Mem) (x1 : Int32) : AMF (XM l D ad cid) M12_isSo 0 eB [.ref (ad 12 0 0), .int x1] σ (oM σ (F12_isSo σ x1)) := by
  refine AM.ofW (by decide +kernel) (Nat.le_of_ble_eq_true rfl) (ls := [(0, .ref (ad 12 0 0)), (1, .int x1)]) rfl ?_
  refine aw_entryO ?_
  unfold F12_isSo
  refine aw_aload_n 0 dX12_isSo_0 rfl rfl ?_
  refine aw_getf (fg_12_20 (by decide)) ci_12 (by decide) w_1478 dX12_isSo_1 ?_
  refine aw_iload_n 1 dX12_isSo_4 rfl rfl ?_
  refine aw_bipush 6 dX12_isSo_5 (by decide) ?_
  refine aw_iadd dX12_isSo_7 ?_
  refine aw_iaload (ar_12_5 (by decide)) dX12_isSo_8 (fun v_1 => ?_)
  refine aw_istore_n (ls' := [(0, .ref (ad 12 0 0)), (1, .int x1), (2, .int v_1)]) [1, 2, 0] dX12_isSo_9 rfl (by decide) rfl ?_
  refine aw_iload_n 2 dX12_isSo_10 rfl rfl ?_
  refine aw_if_ne 33 dX12_isSo_11 (by decide) ?_ ?_
  · refine aw_iload_n 2 dX12_isSo_33 rfl rfl ?_
    refine aw_iconst 1 dX12_isSo_34 (by decide) ?_
    refine aw_icmp_ne 48 dX12_isSo_35 (by decide) ?_ ?_
    · refine aw_aload_n 0 dX12_isSo_48 rfl rfl ?_
      refine aw_getf (fg_12_20 (by decide)) ci_12 (by decide) w_1478 dX12_isSo_49 ?_
      refine aw_bipush 7 dX12_isSo_52 (by decide) ?_
      refine aw_iaload (ar_12_5 (by decide)) dX12_isSo_54 (fun v_2 => ?_)
      refine aw_ls (ls' := [(0, .ref (ad 12 0 0)), (1, .int x1)]) [0, 1] rfl ?_
      exact c12_isSo_p55 σ x1 v_2
    · refine aw_aload_n 0 dX12_isSo_38 rfl rfl ?_
      refine aw_getf (fg_12_20 (by decide)) ci_12 (by decide) w_1478 dX12_isSo_39 ?_
      refine aw_bipush 8 dX12_isSo_42 (by decide) ?_
      refine aw_iaload (ar_12_5 (by decide)) dX12_isSo_44 (fun v_8 => ?_)
      refine aw_goto 55 dX12_isSo_45 (by decide) ?_
      refine aw_ls (ls' := [(0, .ref (ad 12 0 0)), (1, .int x1)]) [0, 1] rfl ?_
      exact c12_isSo_p55 σ x1 v_8
  · refine aw_aload_n 0 dX12_isSo_14 rfl rfl ?_
    refine aw_getf (fg_12_20 (by decide)) ci_12 (by decide) w_1478 dX12_isSo_15 ?_
    refine aw_bipush 77 dX12_isSo_18 (by decide) ?_
    refine aw_aload_n 0 dX12_isSo_20 rfl rfl ?_
    refine aw_getf (fg_12_20 (by decide)) ci_12 (by decide) w_1478 dX12_isSo_21 ?_
    refine aw_iload_n 1 dX12_isSo_24 rfl rfl ?_
    refine aw_iconst 1 dX12_isSo_25 (by decide) ?_
    refine aw_iadd dX12_isSo_26 ?_
    refine aw_iaload (ar_12_5 (by decide)) dX12_isSo_27 (fun v_9 => ?_)
    refine aw_iadd dX12_isSo_28 ?_
    refine aw_iaload (ar_12_5 (by decide)) dX12_isSo_29 (fun v_10 => ?_)
    refine aw_goto 55 dX12_isSo_30 (by decide) ?_
    refine aw_ls (ls' := [(0, .ref (ad 12 0 0)), (1, .int x1)]) [0, 1] rfl ?_
    exact c12_isSo_p55 σ x1 v_10
def F12_doOne_L120 (rec : Mem → Int32 → Int32 → Option (Unit × Mem)) (x1 : Int32) (x2 : Int32) : Nat → Mem → Int32 → Option ((Unit) × Mem)
  | 0 => fun _ _ => none
  | n + 1 => fun σ x4 =>
    (ald 3000 (gI σ 12 0 5) (x2 + 1)).bind fun v_5 => if v_5 ≤ x4 then (some ((), σ)) else (if (gB σ 12 0 0 48) = true then (some ((), σ)) else ((ald 3000 (gI σ 12 0 5) (x2 + 8)).bind fun v_6 => bd (rec σ (x1 + 1) v_6) fun _ s_7 => (F12_doOne_L120 rec x1 x2 n) s_7 (x4 + 1)))
set_option maxRecDepth 20000 in
theorem c12_doOne_L120 {l : Launch} {D : va_G} {ad : Nat → Nat → Nat → Nat} {cid : Nat → Nat → Nat → ClassId} {α : Type} {emb : α → Option Value} (rec : Mem → Int32 → Int32 → Option (Unit × Mem)) {lv lv2 : Nat} (hlv : lv2 < lv) (hbs : 6 ≤ lv) (hrec : ∀ (σ : Mem) (x1 : Int32) (x2 : Int32), AMF (XM l D ad cid) M12_doAll lv2 eU [.ref (ad 12 0 0), .int x1, .int x2] σ (rec σ x1 x2)) (x1 : Int32) (x2 : Int32) {G : Unit → Mem → Option (α × Mem)} (kx : ∀ r σ, AW (XM l D ad cid) M12_doOne lv emb [] 162 [] σ (G r σ)) : ∀ (n : Nat) (σ : Mem) (x4 : Int32), AW (XM l D ad cid) M12_doOne lv emb [(0, .ref (ad 12 0 0)), (1, .int x1), (2, .int x2), (4, .int x4)] 120 [] σ (bd (F12_doOne_L120 rec x1 x2 n σ x4) G) := by
  intro n
  induction n with
  | zero => intros; exact aw_none
  | succ n ih =>
    intro σ x4
    refine aw_bdB ?_
    rw [F12_doOne_L120.eq_2]
    refine aw_iload 3 dX12_doOne_120 rfl ?_
    refine aw_aload_n 0 dX12_doOne_122 rfl rfl ?_
    refine aw_getf (fg_12_20 (by decide)) ci_12 (by decide) w_1478 dX12_doOne_123 ?_
    refine aw_iload_n 2 dX12_doOne_126 rfl rfl ?_
    refine aw_iconst 1 dX12_doOne_127 (by decide) ?_
    refine aw_iadd dX12_doOne_128 ?_
    refine aw_iaload (ar_12_5 (by decide)) dX12_doOne_129 (fun v_5 => ?_)
    refine aw_icmp_ge 162 dX12_doOne_130 (by decide) ?_ ?_
    · refine aw_ls (ls' := []) [] rfl ?_
      exact kx () σ
    · refine aw_aload_n 0 dX12_doOne_133 rfl rfl ?_
      refine aw_getf (fg_12_48 (by decide)) ci_12 (by decide) w_1506 dX12_doOne_134 ?_
      refine aw_bif_ne 162 dX12_doOne_137 (by decide) ?_ ?_
      · refine aw_ls (ls' := []) [] rfl ?_
        exact kx () σ
      · refine aw_aload_n 0 dX12_doOne_140 rfl rfl ?_
        refine aw_iload_n 1 dX12_doOne_141 rfl rfl ?_
        refine aw_iconst 1 dX12_doOne_142 (by decide) ?_
        refine aw_iadd dX12_doOne_143 ?_
        refine aw_aload_n 0 dX12_doOne_144 rfl rfl ?_
        refine aw_getf (fg_12_20 (by decide)) ci_12 (by decide) w_1478 dX12_doOne_145 ?_
        refine aw_iload_n 2 dX12_doOne_148 rfl rfl ?_
        refine aw_bipush 8 dX12_doOne_149 (by decide) ?_
        refine aw_iadd dX12_doOne_151 ?_
        refine aw_iaload (ar_12_5 (by decide)) dX12_doOne_152 (fun v_6 => ?_)
        refine aw_callVW_U (hrec σ (x1 + 1) v_6) (io_12 (by decide)) ci_12 hlv mk_12_doAll w_2195 w_131 w_2193 rfl rfl (Nat.le_of_ble_eq_true rfl) dX12_doOne_153 (fun _ s_7 => ?_)
        refine aw_iinc (ls' := [(0, .ref (ad 12 0 0)), (1, .int x1), (2, .int x2), (4, .int (x4 + 1))]) (x4 + 1) 3 [1, 2, 3, 0] dX12_doOne_156 rfl (by rfl) (by decide) rfl ?_
        refine aw_goto 120 dX12_doOne_159 (by decide) ?_
        exact ih s_7 (x4 + 1)
def F12_doOne_p111 (rec : Mem → Int32 → Int32 → Option (Unit × Mem)) (σ : Mem) (x1 : Int32) (x2 : Int32) (x3 : Int32) : Option (Unit × Mem) :=
  if x3 = 8 then (bd (F12_doOne_L120 rec x1 x2 fuelK σ 0) fun r_8 s_9 => some ((), s_9)) else (if x3 ≤ 8 then (some ((), σ)) else (bnd (sB σ 12 0 0 48 true) fun s_4 => some ((), s_4)))
set_option maxRecDepth 20000 in
theorem c12_doOne_p111 {l : Launch} {D : va_G} {ad : Nat → Nat → Nat → Nat} {cid : Nat → Nat → Nat → ClassId} (rec : Mem → Int32 → Int32 → Option (Unit × Mem)) {lv lv2 : Nat} (hlv : lv2 < lv) (hbs : 6 ≤ lv) (hrec : ∀ (σ : Mem) (x1 : Int32) (x2 : Int32), AMF (XM l D ad cid) M12_doAll lv2 eU [.ref (ad 12 0 0), .int x1, .int x2] σ (rec σ x1 x2)) (σ : Mem) (x1 : Int32) (x2 : Int32) (x3 : Int32) : AW (XM l D ad cid) M12_doOne lv eU [(0, .ref (ad 12 0 0)), (1, .int x1), (2, .int x2), (3, .int x3)] 111 [] σ ((F12_doOne_p111 rec σ x1 x2 x3).bind some) := by
  unfold F12_doOne_p111
  refine aw_iload_n 3 dX12_doOne_111 rfl rfl ?_
  refine aw_bipush 8 dX12_doOne_112 (by decide) ?_
  refine aw_icmp_ne 165 dX12_doOne_114 (by decide) ?_ ?_
  · refine aw_iload_n 3 dX12_doOne_165 rfl rfl ?_
    refine aw_bipush 8 dX12_doOne_166 (by decide) ?_
    refine aw_icmp_le 176 dX12_doOne_168 (by decide) ?_ ?_
    · exact aw_return rfl dX12_doOne_176
    · refine aw_aload_n 0 dX12_doOne_171 rfl rfl ?_
      refine aw_iconst 1 dX12_doOne_172 (by decide) ?_
      refine aw_putB (v := true) rfl (fs_12_48 (by decide)) ci_12 (by decide) rfl rfl w_1506 dX12_doOne_173 ?_
      refine aw_bndM (fun s_4 => ?_)
      exact aw_return rfl dX12_doOne_176
  · refine aw_iconst 0 dX12_doOne_117 (by decide) ?_
    refine aw_istore (ls' := [(0, .ref (ad 12 0 0)), (1, .int x1), (2, .int x2), (4, .int 0)]) [1, 2, 3, 0] dX12_doOne_118 (by decide) rfl ?_
    refine aw_assocW ?_
    refine c12_doOne_L120 rec hlv hbs hrec x1 x2 (fun r_8 s_9 => ?_) fuelK σ 0
    refine aw_goto 176 dX12_doOne_162 (by decide) ?_
    exact aw_return rfl dX12_doOne_176
def O12_doOne (rec : Mem → Int32 → Int32 → Option (Unit × Mem)) (σ : Mem) (x1 : Int32) : Option (Unit × Mem) :=
  if (gI σ 12 0 0 50) = 300 then (bnd (sB σ 12 0 0 48 true) fun s_17 => bnd (sI s_17 12 0 0 55 1) fun s_18 => some ((), s_18)) else (bnd (sI σ 12 0 0 50 ((gI σ 12 0 0 50) + 1)) fun s_1 => bnd (325 + (9 * x1)) fun v_2 => (ald 3000 (gI s_1 12 0 5) v_2).bind fun v_3 => if 7 ≤ v_3 then (if v_3 = 7 then ((F12_isSo s_1 v_2).bind fun v_10 => if v_10 = true then ((ald 3000 (gI s_1 12 0 5) (v_2 + 8)).bind fun v_11 => bd (rec s_1 (x1 + 1) v_11) fun _ s_12 => some ((), s_12)) else (F12_doOne_p111 rec s_1 x1 v_2 v_3)) else (F12_doOne_p111 rec s_1 x1 v_2 v_3)) else (bd (F12_does s_1 v_2) fun v_13 s_14 => if v_13 = true then (bnd (sI s_14 12 0 0 51 ((gI s_1 12 0 0 51) + 0)) fun s_16 => some ((), s_16)) else (bnd (sI s_14 12 0 0 51 ((gI s_1 12 0 0 51) + 1)) fun s_15 => some ((), s_15))))
set_option maxRecDepth 20000 in
theorem co12_doOne {l : Launch} {D : va_G} {ad : Nat → Nat → Nat → Nat} {cid : Nat → Nat → Nat → ClassId} (rec : Mem → Int32 → Int32 → Option (Unit × Mem)) {lv lv2 : Nat} (hlv : lv2 < lv) (hbs : 6 ≤ lv) (hrec : ∀ (σ : Mem) (x1 : Int32) (x2 : Int32), AMF (XM l D ad cid) M12_doAll lv2 eU [.ref (ad 12 0 0), .int x1, .int x2] σ (rec σ x1 x2)) (σ : Mem) (x1 : Int32) : AMF (XM l D ad cid) M12_doOne lv eU [.ref (ad 12 0 0), .int x1] σ (O12_doOne rec σ x1) := by
  refine AM.ofW (by decide +kernel) (Nat.le_of_ble_eq_true rfl) (ls := [(0, .ref (ad 12 0 0)), (1, .int x1)]) rfl ?_
  refine aw_entry ?_
  unfold O12_doOne
  refine aw_aload_n 0 dX12_doOne_0 rfl rfl ?_
  refine aw_getf (fg_12_50 (by decide)) ci_12 (by decide) w_1508 dX12_doOne_1 ?_
  refine aw_sipush 300 dX12_doOne_4 (by decide) ?_
  refine aw_icmp_ne 21 dX12_doOne_7 (by decide) ?_ ?_
  · refine aw_aload_n 0 dX12_doOne_21 rfl rfl ?_
    refine aw_dup dX12_doOne_22 rfl ?_
    refine aw_getf (fg_12_50 (by decide)) ci_12 (by decide) w_1508 dX12_doOne_23 ?_
    refine aw_iconst 1 dX12_doOne_26 (by decide) ?_
    refine aw_iadd dX12_doOne_27 ?_
    refine aw_putI (fs_12_50 (by decide)) ci_12 (by decide) rfl rfl w_1508 dX12_doOne_28 ?_
    refine aw_bndM (fun s_1 => ?_)
    refine aw_sipush 325 dX12_doOne_31 (by decide) ?_
    refine aw_bipush 9 dX12_doOne_34 (by decide) ?_
    refine aw_iload_n 1 dX12_doOne_36 rfl rfl ?_
    refine aw_imul dX12_doOne_37 ?_
    refine aw_iadd dX12_doOne_38 ?_
    refine aw_bnd_int (fun v_2 => ?_)
    refine aw_istore_n (ls' := [(0, .ref (ad 12 0 0)), (1, .int x1), (2, .int v_2)]) [1, 2, 0] dX12_doOne_39 rfl (by decide) rfl ?_
    refine aw_aload_n 0 dX12_doOne_40 rfl rfl ?_
    refine aw_getf (fg_12_20 (by decide)) ci_12 (by decide) w_1478 dX12_doOne_41 ?_
    refine aw_iload_n 2 dX12_doOne_44 rfl rfl ?_
    refine aw_iaload (ar_12_5 (by decide)) dX12_doOne_45 (fun v_3 => ?_)
    refine aw_istore_n (ls' := [(0, .ref (ad 12 0 0)), (1, .int x1), (2, .int v_2), (3, .int v_3)]) [1, 2, 3, 0] dX12_doOne_46 rfl (by decide) rfl ?_
    refine aw_iload_n 3 dX12_doOne_47 rfl rfl ?_
    refine aw_bipush 7 dX12_doOne_48 (by decide) ?_
    refine aw_icmp_ge 78 dX12_doOne_50 (by decide) ?_ ?_
    · refine aw_iload_n 3 dX12_doOne_78 rfl rfl ?_
      refine aw_bipush 7 dX12_doOne_79 (by decide) ?_
      refine aw_icmp_ne 111 dX12_doOne_81 (by decide) ?_ ?_
      · exact c12_doOne_p111 rec hlv hbs hrec s_1 x1 v_2 v_3
      · refine aw_aload_n 0 dX12_doOne_84 rfl rfl ?_
        refine aw_iload_n 2 dX12_doOne_85 rfl rfl ?_
        refine aw_callVO_B (c12_isSo s_1 v_2) (io_12 (by decide)) ci_12 (by omega) mk_12_isSo w_2220 w_137 w_2218 rfl rfl (Nat.le_of_ble_eq_true rfl) dX12_doOne_86 (fun v_10 => ?_)
        refine aw_bif_eq 111 dX12_doOne_89 (by decide) ?_ ?_
        · exact c12_doOne_p111 rec hlv hbs hrec s_1 x1 v_2 v_3
        · refine aw_aload_n 0 dX12_doOne_92 rfl rfl ?_
          refine aw_iload_n 1 dX12_doOne_93 rfl rfl ?_
          refine aw_iconst 1 dX12_doOne_94 (by decide) ?_
          refine aw_iadd dX12_doOne_95 ?_
          refine aw_aload_n 0 dX12_doOne_96 rfl rfl ?_
          refine aw_getf (fg_12_20 (by decide)) ci_12 (by decide) w_1478 dX12_doOne_97 ?_
          refine aw_iload_n 2 dX12_doOne_100 rfl rfl ?_
          refine aw_bipush 8 dX12_doOne_101 (by decide) ?_
          refine aw_iadd dX12_doOne_103 ?_
          refine aw_iaload (ar_12_5 (by decide)) dX12_doOne_104 (fun v_11 => ?_)
          refine aw_callVW_U (hrec s_1 (x1 + 1) v_11) (io_12 (by decide)) ci_12 hlv mk_12_doAll w_2195 w_131 w_2193 rfl rfl (Nat.le_of_ble_eq_true rfl) dX12_doOne_105 (fun _ s_12 => ?_)
          refine aw_goto 176 dX12_doOne_108 (by decide) ?_
          exact aw_return rfl dX12_doOne_176
    · refine aw_aload_n 0 dX12_doOne_53 rfl rfl ?_
      refine aw_dup dX12_doOne_54 rfl ?_
      refine aw_getf (fg_12_51 (by decide)) ci_12 (by decide) w_1509 dX12_doOne_55 ?_
      refine aw_aload_n 0 dX12_doOne_58 rfl rfl ?_
      refine aw_iload_n 2 dX12_doOne_59 rfl rfl ?_
      refine aw_callVW_B (c12_does s_1 v_2) (io_12 (by decide)) ci_12 (by omega) mk_12_does w_2203 w_133 w_2201 rfl rfl (Nat.le_of_ble_eq_true rfl) dX12_doOne_60 (fun v_13 s_14 => ?_)
      refine aw_bif_eq 70 dX12_doOne_63 (by decide) ?_ ?_
      · refine aw_iconst 1 dX12_doOne_70 (by decide) ?_
        refine aw_iadd dX12_doOne_71 ?_
        refine aw_putI (fs_12_51 (by decide)) ci_12 (by decide) rfl rfl w_1509 dX12_doOne_72 ?_
        refine aw_bndM (fun s_15 => ?_)
        refine aw_goto 176 dX12_doOne_75 (by decide) ?_
        exact aw_return rfl dX12_doOne_176
      · refine aw_iconst 0 dX12_doOne_66 (by decide) ?_
        refine aw_goto 71 dX12_doOne_67 (by decide) ?_
        refine aw_iadd dX12_doOne_71 ?_
        refine aw_putI (fs_12_51 (by decide)) ci_12 (by decide) rfl rfl w_1509 dX12_doOne_72 ?_
        refine aw_bndM (fun s_16 => ?_)
        refine aw_goto 176 dX12_doOne_75 (by decide) ?_
        exact aw_return rfl dX12_doOne_176
  · refine aw_aload_n 0 dX12_doOne_10 rfl rfl ?_
    refine aw_iconst 1 dX12_doOne_11 (by decide) ?_
    refine aw_putB (v := true) rfl (fs_12_48 (by decide)) ci_12 (by decide) rfl rfl w_1506 dX12_doOne_12 ?_
    refine aw_bndM (fun s_17 => ?_)
    refine aw_aload_n 0 dX12_doOne_15 rfl rfl ?_
    refine aw_iconst 1 dX12_doOne_16 (by decide) ?_
    refine aw_putI (fs_12_55 (by decide)) ci_12 (by decide) rfl rfl w_1513 dX12_doOne_17 ?_
    refine aw_bndM (fun s_18 => ?_)
    exact aw_return rfl dX12_doOne_20
def F12_doAll_L2 (rec : Mem → Int32 → Option (Unit × Mem)) (x2 : Int32) : Nat → Mem → Int32 → Option ((Unit) × Mem)
  | 0 => fun _ _ => none
  | n + 1 => fun σ x3 =>
    if x2 ≤ x3 then (some ((), σ)) else (if (gB σ 12 0 0 48) = true then (some ((), σ)) else (bd (rec σ x3) fun _ s_1 => (ald 3000 (gI s_1 12 0 5) ((325 + (9 * x3)) + 8)).bind fun v_2 => (F12_doAll_L2 rec x2 n) s_1 v_2))
set_option maxRecDepth 20000 in
theorem c12_doAll_L2 {l : Launch} {D : va_G} {ad : Nat → Nat → Nat → Nat} {cid : Nat → Nat → Nat → ClassId} {α : Type} {emb : α → Option Value} (rec : Mem → Int32 → Option (Unit × Mem)) {lv lv2 : Nat} (hlv : lv2 < lv) (hbs : 0 ≤ lv) (hrec : ∀ (σ : Mem) (x1 : Int32), AMF (XM l D ad cid) M12_doOne lv2 eU [.ref (ad 12 0 0), .int x1] σ (rec σ x1)) (x2 : Int32) {G : Unit → Mem → Option (α × Mem)} (kx : ∀ r σ, AW (XM l D ad cid) M12_doAll lv emb [] 39 [] σ (G r σ)) : ∀ (n : Nat) (σ : Mem) (x3 : Int32), AW (XM l D ad cid) M12_doAll lv emb [(0, .ref (ad 12 0 0)), (2, .int x2), (3, .int x3)] 2 [] σ (bd (F12_doAll_L2 rec x2 n σ x3) G) := by
  intro n
  induction n with
  | zero => intros; exact aw_none
  | succ n ih =>
    intro σ x3
    refine aw_bdB ?_
    rw [F12_doAll_L2.eq_2]
    refine aw_iload_n 2 dX12_doAll_2 rfl rfl ?_
    refine aw_iload_n 1 dX12_doAll_3 rfl rfl ?_
    refine aw_icmp_ge 39 dX12_doAll_4 (by decide) ?_ ?_
    · refine aw_ls (ls' := []) [] rfl ?_
      exact kx () σ
    · refine aw_aload_n 0 dX12_doAll_7 rfl rfl ?_
      refine aw_getf (fg_12_48 (by decide)) ci_12 (by decide) w_1506 dX12_doAll_8 ?_
      refine aw_bif_ne 39 dX12_doAll_11 (by decide) ?_ ?_
      · refine aw_ls (ls' := []) [] rfl ?_
        exact kx () σ
      · refine aw_aload_n 0 dX12_doAll_14 rfl rfl ?_
        refine aw_iload_n 2 dX12_doAll_15 rfl rfl ?_
        refine aw_callVW_U (hrec σ x3) (io_12 (by decide)) ci_12 hlv mk_12_doOne w_2199 w_132 w_2197 rfl rfl (Nat.le_of_ble_eq_true rfl) dX12_doAll_16 (fun _ s_1 => ?_)
        refine aw_aload_n 0 dX12_doAll_19 rfl rfl ?_
        refine aw_getf (fg_12_20 (by decide)) ci_12 (by decide) w_1478 dX12_doAll_20 ?_
        refine aw_sipush 325 dX12_doAll_23 (by decide) ?_
        refine aw_bipush 9 dX12_doAll_26 (by decide) ?_
        refine aw_iload_n 2 dX12_doAll_28 rfl rfl ?_
        refine aw_imul dX12_doAll_29 ?_
        refine aw_iadd dX12_doAll_30 ?_
        refine aw_bipush 8 dX12_doAll_31 (by decide) ?_
        refine aw_iadd dX12_doAll_33 ?_
        refine aw_iaload (ar_12_5 (by decide)) dX12_doAll_34 (fun v_2 => ?_)
        refine aw_istore_n (ls' := [(0, .ref (ad 12 0 0)), (2, .int x2), (3, .int v_2)]) [1, 2, 0] dX12_doAll_35 rfl (by decide) rfl ?_
        refine aw_goto 2 dX12_doAll_36 (by decide) ?_
        exact ih s_1 v_2
def O12_doAll (rec : Mem → Int32 → Option (Unit × Mem)) (σ : Mem) (x1 : Int32) (x2 : Int32) : Option (Unit × Mem) :=
  bd (F12_doAll_L2 rec x2 fuelK σ x1) fun r_3 s_4 => some ((), s_4)
set_option maxRecDepth 20000 in
theorem co12_doAll {l : Launch} {D : va_G} {ad : Nat → Nat → Nat → Nat} {cid : Nat → Nat → Nat → ClassId} (rec : Mem → Int32 → Option (Unit × Mem)) {lv lv2 : Nat} (hlv : lv2 < lv) (hbs : 0 ≤ lv) (hrec : ∀ (σ : Mem) (x1 : Int32), AMF (XM l D ad cid) M12_doOne lv2 eU [.ref (ad 12 0 0), .int x1] σ (rec σ x1)) (σ : Mem) (x1 : Int32) (x2 : Int32) : AMF (XM l D ad cid) M12_doAll lv eU [.ref (ad 12 0 0), .int x1, .int x2] σ (O12_doAll rec σ x1 x2) := by
  refine AM.ofW (by decide +kernel) (Nat.le_of_ble_eq_true rfl) (ls := [(0, .ref (ad 12 0 0)), (1, .int x1), (2, .int x2)]) rfl ?_
  refine aw_entry ?_
  unfold O12_doAll
  refine aw_iload_n 1 dX12_doAll_0 rfl rfl ?_
  refine aw_istore_n (ls' := [(0, .ref (ad 12 0 0)), (2, .int x2), (3, .int x1)]) [1, 3, 0] dX12_doAll_1 rfl (by decide) rfl ?_
  refine aw_assocW ?_
  refine c12_doAll_L2 rec hlv hbs hrec x2 (fun r_3 s_4 => ?_) fuelK σ x1
  exact aw_return rfl dX12_doAll_39
def R12_doAll : Nat → Mem → Int32 → Int32 → Option (Unit × Mem)
  | 0 => fun _ _ _ => none
  | d + 1 => fun σ x1 x2 => O12_doAll (fun s y => O12_doOne (R12_doAll d) s y) σ x1 x2
theorem cr12_doAll {l : Launch} {D : va_G} {ad : Nat → Nat → Nat → Nat} {cid : Nat → Nat → Nat → ClassId} : ∀ (d : Nat) (σ : Mem) (x1 x2 : Int32), AMF (XM l D ad cid) M12_doAll (6 + 2 * d) eU [.ref (ad 12 0 0), .int x1, .int x2] σ (R12_doAll d σ x1 x2) := by
  intro d
  induction d with
  | zero => intro σ x1 x2 r σ1 h; cases h
  | succ d ih =>
    intro σ x1 x2
    exact co12_doAll (fun s y => O12_doOne (R12_doAll d) s y) (lv := 6 + 2 * (d + 1)) (lv2 := 6 + 2 * d + 1) (by omega) (by omega) (fun s y => co12_doOne (R12_doAll d) (lv := 6 + 2 * d + 1) (lv2 := 6 + 2 * d) (by omega) (by omega) ih s y) σ x1 x2
def F12_doAll (σ : Mem) (x1 x2 : Int32) : Option (Unit × Mem) := R12_doAll 8 σ x1 x2
theorem c12_doAll {l : Launch} {D : va_G} {ad : Nat → Nat → Nat → Nat} {cid : Nat → Nat → Nat → ClassId} (σ : Mem) (x1 x2 : Int32) : AMF (XM l D ad cid) M12_doAll 22 eU [.ref (ad 12 0 0), .int x1, .int x2] σ (F12_doAll σ x1 x2) := cr12_doAll 8 σ x1 x2
def F12_plays (σ : Mem) (x1 : Int32) : Option (Unit × Mem) :=
  bnd (sI σ 12 0 0 49 x1) fun s_1 => bnd (sI s_1 12 0 0 50 0) fun s_2 => bnd (sI s_2 12 0 0 51 0) fun s_3 => bnd (sI s_3 12 0 0 52 0) fun s_4 => bnd (sI s_4 12 0 0 53 0) fun s_5 => bnd (sI s_5 12 0 0 54 0) fun s_6 => bnd (sI s_6 12 0 0 55 0) fun s_7 => bnd (sI s_7 12 0 0 56 0) fun s_8 => bnd (sI s_8 12 0 0 57 0) fun s_9 => bnd (sI s_9 12 0 0 58 0) fun s_10 => bnd (sI s_10 12 0 0 59 20) fun s_11 => bnd (sI s_11 12 0 0 60 0) fun s_12 => bnd (sB s_12 12 0 0 48 false) fun s_13 => (ald 3000 (gI s_13 12 0 5) 324).bind fun v_14 => bd (F12_doAll s_13 0 v_14) fun _ s_15 => some ((), s_15)
set_option maxRecDepth 20000 in
theorem c12_plays {l : Launch} {D : va_G} {ad : Nat → Nat → Nat → Nat} {cid : Nat → Nat → Nat → ClassId} (σ : Mem) (x1 : Int32) : AMF (XM l D ad cid) M12_plays 23 eU [.ref (ad 12 0 0), .int x1] σ (F12_plays σ x1) := by
  refine AM.ofW (by decide +kernel) (Nat.le_of_ble_eq_true rfl) (ls := [(0, .ref (ad 12 0 0)), (1, .int x1)]) rfl ?_
  refine aw_entry ?_
  unfold F12_plays
  refine aw_aload_n 0 dX12_plays_0 rfl rfl ?_
  refine aw_iload_n 1 dX12_plays_1 rfl rfl ?_
  refine aw_putI (fs_12_49 (by decide)) ci_12 (by decide) rfl rfl w_1507 dX12_plays_2 ?_
  refine aw_bndM (fun s_1 => ?_)
  refine aw_aload_n 0 dX12_plays_5 rfl rfl ?_
  refine aw_iconst 0 dX12_plays_6 (by decide) ?_
  refine aw_putI (fs_12_50 (by decide)) ci_12 (by decide) rfl rfl w_1508 dX12_plays_7 ?_
  refine aw_bndM (fun s_2 => ?_)
  refine aw_aload_n 0 dX12_plays_10 rfl rfl ?_
  refine aw_iconst 0 dX12_plays_11 (by decide) ?_
  refine aw_putI (fs_12_51 (by decide)) ci_12 (by decide) rfl rfl w_1509 dX12_plays_12 ?_
  refine aw_bndM (fun s_3 => ?_)
  refine aw_aload_n 0 dX12_plays_15 rfl rfl ?_
  refine aw_iconst 0 dX12_plays_16 (by decide) ?_
  refine aw_putI (fs_12_52 (by decide)) ci_12 (by decide) rfl rfl w_1510 dX12_plays_17 ?_
  refine aw_bndM (fun s_4 => ?_)
  refine aw_aload_n 0 dX12_plays_20 rfl rfl ?_
  refine aw_iconst 0 dX12_plays_21 (by decide) ?_
  refine aw_putI (fs_12_53 (by decide)) ci_12 (by decide) rfl rfl w_1511 dX12_plays_22 ?_
  refine aw_bndM (fun s_5 => ?_)
  refine aw_aload_n 0 dX12_plays_25 rfl rfl ?_
  refine aw_iconst 0 dX12_plays_26 (by decide) ?_
  refine aw_putI (fs_12_54 (by decide)) ci_12 (by decide) rfl rfl w_1512 dX12_plays_27 ?_
  refine aw_bndM (fun s_6 => ?_)
  refine aw_aload_n 0 dX12_plays_30 rfl rfl ?_
  refine aw_iconst 0 dX12_plays_31 (by decide) ?_
  refine aw_putI (fs_12_55 (by decide)) ci_12 (by decide) rfl rfl w_1513 dX12_plays_32 ?_
  refine aw_bndM (fun s_7 => ?_)
  refine aw_aload_n 0 dX12_plays_35 rfl rfl ?_
  refine aw_iconst 0 dX12_plays_36 (by decide) ?_
  refine aw_putI (fs_12_56 (by decide)) ci_12 (by decide) rfl rfl w_1514 dX12_plays_37 ?_
  refine aw_bndM (fun s_8 => ?_)
  refine aw_aload_n 0 dX12_plays_40 rfl rfl ?_
  refine aw_iconst 0 dX12_plays_41 (by decide) ?_
  refine aw_putI (fs_12_57 (by decide)) ci_12 (by decide) rfl rfl w_1515 dX12_plays_42 ?_
  refine aw_bndM (fun s_9 => ?_)
  refine aw_aload_n 0 dX12_plays_45 rfl rfl ?_
  refine aw_iconst 0 dX12_plays_46 (by decide) ?_
  refine aw_putI (fs_12_58 (by decide)) ci_12 (by decide) rfl rfl w_1516 dX12_plays_47 ?_
  refine aw_bndM (fun s_10 => ?_)
  refine aw_aload_n 0 dX12_plays_50 rfl rfl ?_
  refine aw_bipush 20 dX12_plays_51 (by decide) ?_
  refine aw_putI (fs_12_59 (by decide)) ci_12 (by decide) rfl rfl w_1517 dX12_plays_53 ?_
  refine aw_bndM (fun s_11 => ?_)
  refine aw_aload_n 0 dX12_plays_56 rfl rfl ?_
  refine aw_iconst 0 dX12_plays_57 (by decide) ?_
  refine aw_putI (fs_12_60 (by decide)) ci_12 (by decide) rfl rfl w_1518 dX12_plays_58 ?_
  refine aw_bndM (fun s_12 => ?_)
  refine aw_aload_n 0 dX12_plays_61 rfl rfl ?_
  refine aw_iconst 0 dX12_plays_62 (by decide) ?_
  refine aw_putB (v := false) rfl (fs_12_48 (by decide)) ci_12 (by decide) rfl rfl w_1506 dX12_plays_63 ?_
  refine aw_bndM (fun s_13 => ?_)
  refine aw_aload_n 0 dX12_plays_66 rfl rfl ?_
  refine aw_iconst 0 dX12_plays_67 (by decide) ?_
  refine aw_aload_n 0 dX12_plays_68 rfl rfl ?_
  refine aw_getf (fg_12_20 (by decide)) ci_12 (by decide) w_1478 dX12_plays_69 ?_
  refine aw_sipush 324 dX12_plays_72 (by decide) ?_
  refine aw_iaload (ar_12_5 (by decide)) dX12_plays_75 (fun v_14 => ?_)
  refine aw_callVW_U (c12_doAll s_13 0 v_14) (io_12 (by decide)) ci_12 (by decide) mk_12_doAll w_2195 w_131 w_2193 rfl rfl (Nat.le_of_ble_eq_true rfl) dX12_plays_76 (fun _ s_15 => ?_)
  exact aw_return rfl dX12_plays_79
def F12_play (σ : Mem) (x1 : Int32) : Option (Int32 × Mem) :=
  bnd (sI σ 12 0 0 1 0) fun s_1 => bnd (sI s_1 12 0 0 0 0) fun s_2 => if (F12_isIn (Int32.toInt64 x1) 0 9999) = true then ((ald 3000 (gI s_2 12 0 5) 323).bind fun v_3 => if v_3 = 0 then (bd (F12_refuse s_2 8) fun v_11 s_12 => some (v_11, s_12)) else (bd (F12_plays s_2 x1) fun _ s_4 => chk 5 0 <| bnd (sI s_4 12 0 12 (Int32.toNatClampNeg 0) (gI s_4 12 0 0 51)) fun s_5 => chk 5 1 <| bnd (sI s_5 12 0 12 (Int32.toNatClampNeg 1) (gI s_5 12 0 0 52)) fun s_6 => chk 5 2 <| bnd (sI s_6 12 0 12 (Int32.toNatClampNeg 2) (gI s_6 12 0 0 53)) fun s_7 => chk 5 3 <| bnd (sI s_7 12 0 12 (Int32.toNatClampNeg 3) (gI s_7 12 0 0 54)) fun s_8 => chk 5 4 <| bnd (sI s_8 12 0 12 (Int32.toNatClampNeg 4) (gI s_8 12 0 0 55)) fun s_9 => bnd (sB s_9 12 0 0 47 true) fun s_10 => some ((gI s_10 12 0 0 50), s_10))) else (bd (F12_refuse s_2 5) fun v_13 s_14 => some (v_13, s_14))
set_option maxRecDepth 20000 in
theorem c12_play {l : Launch} {D : va_G} {ad : Nat → Nat → Nat → Nat} {cid : Nat → Nat → Nat → ClassId} (σ : Mem) (x1 : Int32) : AMF (XM l D ad cid) M12_play 24 eI [.ref (ad 12 0 0), .int x1] σ (F12_play σ x1) := by
  refine AM.ofW (by decide +kernel) (Nat.le_of_ble_eq_true rfl) (ls := [(0, .ref (ad 12 0 0)), (1, .int x1)]) rfl ?_
  refine aw_entry ?_
  unfold F12_play
  refine aw_aload_n 0 dX12_play_0 rfl rfl ?_
  refine aw_iconst 0 dX12_play_1 (by decide) ?_
  refine aw_putI (fs_12_1 (by decide)) ci_12 (by decide) rfl rfl w_1459 dX12_play_2 ?_
  refine aw_bndM (fun s_1 => ?_)
  refine aw_aload_n 0 dX12_play_5 rfl rfl ?_
  refine aw_iconst 0 dX12_play_6 (by decide) ?_
  refine aw_putI (fs_12_0 (by decide)) ci_12 (by decide) rfl rfl w_1458 dX12_play_7 ?_
  refine aw_bndM (fun s_2 => ?_)
  refine aw_iload_n 1 dX12_play_10 rfl rfl ?_
  refine aw_i2l dX12_play_11 ?_
  refine aw_lconst 0 dX12_play_12 (by decide) ?_
  refine aw_ldc2 w_2188 dX12_play_13 ?_
  refine aw_callST_B (c12_isIn s_2 (Int32.toInt64 x1) 0 9999) (by decide) mk_12_isIn w_1754 w_1753 rfl rfl (Nat.le_of_ble_eq_true rfl) dX12_play_16 ?_
  refine aw_bif_ne 28 dX12_play_19 (by decide) ?_ ?_
  · refine aw_aload_n 0 dX12_play_28 rfl rfl ?_
    refine aw_getf (fg_12_20 (by decide)) ci_12 (by decide) w_1478 dX12_play_29 ?_
    refine aw_sipush 323 dX12_play_32 (by decide) ?_
    refine aw_iaload (ar_12_5 (by decide)) dX12_play_35 (fun v_3 => ?_)
    refine aw_if_ne 46 dX12_play_36 (by decide) ?_ ?_
    · refine aw_aload_n 0 dX12_play_46 rfl rfl ?_
      refine aw_iload_n 1 dX12_play_47 rfl rfl ?_
      refine aw_callVW_U (c12_plays s_2 x1) (io_12 (by decide)) ci_12 (by decide) mk_12_plays w_2191 w_130 w_2189 rfl rfl (Nat.le_of_ble_eq_true rfl) dX12_play_48 (fun _ s_4 => ?_)
      refine aw_aload_n 0 dX12_play_51 rfl rfl ?_
      refine aw_getf (fg_12_46 (by decide)) ci_12 (by decide) w_1504 dX12_play_52 ?_
      refine aw_iconst 0 dX12_play_55 (by decide) ?_
      refine aw_aload_n 0 dX12_play_56 rfl rfl ?_
      refine aw_getf (fg_12_51 (by decide)) ci_12 (by decide) w_1509 dX12_play_57 ?_
      refine aw_iastore (ar_12_12 (by decide)) dX12_play_60 ?_
      refine aw_bndM (fun s_5 => ?_)
      refine aw_aload_n 0 dX12_play_61 rfl rfl ?_
      refine aw_getf (fg_12_46 (by decide)) ci_12 (by decide) w_1504 dX12_play_62 ?_
      refine aw_iconst 1 dX12_play_65 (by decide) ?_
      refine aw_aload_n 0 dX12_play_66 rfl rfl ?_
      refine aw_getf (fg_12_52 (by decide)) ci_12 (by decide) w_1510 dX12_play_67 ?_
      refine aw_iastore (ar_12_12 (by decide)) dX12_play_70 ?_
      refine aw_bndM (fun s_6 => ?_)
      refine aw_aload_n 0 dX12_play_71 rfl rfl ?_
      refine aw_getf (fg_12_46 (by decide)) ci_12 (by decide) w_1504 dX12_play_72 ?_
      refine aw_iconst 2 dX12_play_75 (by decide) ?_
      refine aw_aload_n 0 dX12_play_76 rfl rfl ?_
      refine aw_getf (fg_12_53 (by decide)) ci_12 (by decide) w_1511 dX12_play_77 ?_
      refine aw_iastore (ar_12_12 (by decide)) dX12_play_80 ?_
      refine aw_bndM (fun s_7 => ?_)
      refine aw_aload_n 0 dX12_play_81 rfl rfl ?_
      refine aw_getf (fg_12_46 (by decide)) ci_12 (by decide) w_1504 dX12_play_82 ?_
      refine aw_iconst 3 dX12_play_85 (by decide) ?_
      refine aw_aload_n 0 dX12_play_86 rfl rfl ?_
      refine aw_getf (fg_12_54 (by decide)) ci_12 (by decide) w_1512 dX12_play_87 ?_
      refine aw_iastore (ar_12_12 (by decide)) dX12_play_90 ?_
      refine aw_bndM (fun s_8 => ?_)
      refine aw_aload_n 0 dX12_play_91 rfl rfl ?_
      refine aw_getf (fg_12_46 (by decide)) ci_12 (by decide) w_1504 dX12_play_92 ?_
      refine aw_iconst 4 dX12_play_95 (by decide) ?_
      refine aw_aload_n 0 dX12_play_96 rfl rfl ?_
      refine aw_getf (fg_12_55 (by decide)) ci_12 (by decide) w_1513 dX12_play_97 ?_
      refine aw_iastore (ar_12_12 (by decide)) dX12_play_100 ?_
      refine aw_bndM (fun s_9 => ?_)
      refine aw_aload_n 0 dX12_play_101 rfl rfl ?_
      refine aw_iconst 1 dX12_play_102 (by decide) ?_
      refine aw_putB (v := true) rfl (fs_12_47 (by decide)) ci_12 (by decide) rfl rfl w_1505 dX12_play_103 ?_
      refine aw_bndM (fun s_10 => ?_)
      refine aw_aload_n 0 dX12_play_106 rfl rfl ?_
      refine aw_getf (fg_12_50 (by decide)) ci_12 (by decide) w_1508 dX12_play_107 ?_
      exact aw_ireturn rfl dX12_play_110
    · refine aw_aload_n 0 dX12_play_39 rfl rfl ?_
      refine aw_bipush 8 dX12_play_40 (by decide) ?_
      refine aw_callVW_I (c12_refuse s_2 8) (io_12 (by decide)) ci_12 (by decide) mk_12_refuse w_1921 w_101 w_1919 rfl rfl (Nat.le_of_ble_eq_true rfl) dX12_play_42 (fun v_11 s_12 => ?_)
      exact aw_ireturn rfl dX12_play_45
  · refine aw_aload_n 0 dX12_play_22 rfl rfl ?_
    refine aw_iconst 5 dX12_play_23 (by decide) ?_
    refine aw_callVW_I (c12_refuse s_2 5) (io_12 (by decide)) ci_12 (by decide) mk_12_refuse w_1921 w_101 w_1919 rfl rfl (Nat.le_of_ble_eq_true rfl) dX12_play_24 (fun v_13 s_14 => ?_)
    exact aw_ireturn rfl dX12_play_27
def F12_played (σ : Mem) (x1 : Int32) : Option (Int32 × Mem) :=
  bnd (sI σ 12 0 0 1 0) fun s_1 => bnd (sI s_1 12 0 0 0 0) fun s_2 => if (F12_isIn (Int32.toInt64 x1) 0 4) = true then (if (gB s_2 12 0 0 47) = true then ((ald 5 (gI s_2 12 0 12) x1).bind fun v_5 => some (v_5, s_2)) else (bd (F12_refuse s_2 8) fun v_3 s_4 => some (v_3, s_4))) else (bd (F12_refuse s_2 5) fun v_6 s_7 => some (v_6, s_7))
set_option maxRecDepth 20000 in
theorem c12_played {l : Launch} {D : va_G} {ad : Nat → Nat → Nat → Nat} {cid : Nat → Nat → Nat → ClassId} (σ : Mem) (x1 : Int32) : AMF (XM l D ad cid) M12_played 1 eI [.ref (ad 12 0 0), .int x1] σ (F12_played σ x1) := by
  refine AM.ofW (by decide +kernel) (Nat.le_of_ble_eq_true rfl) (ls := [(0, .ref (ad 12 0 0)), (1, .int x1)]) rfl ?_
  refine aw_entry ?_
  unfold F12_played
  refine aw_aload_n 0 dX12_played_0 rfl rfl ?_
  refine aw_iconst 0 dX12_played_1 (by decide) ?_
  refine aw_putI (fs_12_1 (by decide)) ci_12 (by decide) rfl rfl w_1459 dX12_played_2 ?_
  refine aw_bndM (fun s_1 => ?_)
  refine aw_aload_n 0 dX12_played_5 rfl rfl ?_
  refine aw_iconst 0 dX12_played_6 (by decide) ?_
  refine aw_putI (fs_12_0 (by decide)) ci_12 (by decide) rfl rfl w_1458 dX12_played_7 ?_
  refine aw_bndM (fun s_2 => ?_)
  refine aw_iload_n 1 dX12_played_10 rfl rfl ?_
  refine aw_i2l dX12_played_11 ?_
  refine aw_lconst 0 dX12_played_12 (by decide) ?_
  refine aw_ldc2 w_1828 dX12_played_13 ?_
  refine aw_callST_B (c12_isIn s_2 (Int32.toInt64 x1) 0 4) (by decide) mk_12_isIn w_1754 w_1753 rfl rfl (Nat.le_of_ble_eq_true rfl) dX12_played_16 ?_
  refine aw_bif_ne 28 dX12_played_19 (by decide) ?_ ?_
  · refine aw_aload_n 0 dX12_played_28 rfl rfl ?_
    refine aw_getf (fg_12_47 (by decide)) ci_12 (by decide) w_1505 dX12_played_29 ?_
    refine aw_bif_eq 44 dX12_played_32 (by decide) ?_ ?_
    · refine aw_aload_n 0 dX12_played_44 rfl rfl ?_
      refine aw_bipush 8 dX12_played_45 (by decide) ?_
      refine aw_callVW_I (c12_refuse s_2 8) (io_12 (by decide)) ci_12 (by decide) mk_12_refuse w_1921 w_101 w_1919 rfl rfl (Nat.le_of_ble_eq_true rfl) dX12_played_47 (fun v_3 s_4 => ?_)
      exact aw_ireturn rfl dX12_played_50
    · refine aw_aload_n 0 dX12_played_35 rfl rfl ?_
      refine aw_getf (fg_12_46 (by decide)) ci_12 (by decide) w_1504 dX12_played_36 ?_
      refine aw_iload_n 1 dX12_played_39 rfl rfl ?_
      refine aw_iaload (ar_12_12 (by decide)) dX12_played_40 (fun v_5 => ?_)
      refine aw_goto 50 dX12_played_41 (by decide) ?_
      exact aw_ireturn rfl dX12_played_50
  · refine aw_aload_n 0 dX12_played_22 rfl rfl ?_
    refine aw_iconst 5 dX12_played_23 (by decide) ?_
    refine aw_callVW_I (c12_refuse s_2 5) (io_12 (by decide)) ci_12 (by decide) mk_12_refuse w_1921 w_101 w_1919 rfl rfl (Nat.le_of_ble_eq_true rfl) dX12_played_24 (fun v_6 s_7 => ?_)
    exact aw_ireturn rfl dX12_played_27
def F12_isAhead_L2 (x1 : Int32) : Nat → Mem → Int32 → Option Bool
  | 0 => fun _ _ => none
  | n + 1 => fun σ x2 =>
    (ald 3000 (gI σ 12 0 5) 6).bind fun v_1 => if v_1 ≤ x2 then (some true) else (if x2 = x1 then ((F12_isAhead_L2 x1 n) σ (x2 + 1)) else ((ald 3000 (gI σ 12 0 5) (77 + x2)).bind fun v_2 => (ald 3000 (gI σ 12 0 5) (77 + x1)).bind fun v_3 => if v_2 < v_3 then ((F12_isAhead_L2 x1 n) σ (x2 + 1)) else (some false)))
set_option maxRecDepth 20000 in
theorem c12_isAhead_L2 {l : Launch} {D : va_G} {ad : Nat → Nat → Nat → Nat} {cid : Nat → Nat → Nat → ClassId} (x1 : Int32) : ∀ (n : Nat) (σ : Mem) (x2 : Int32), AW (XM l D ad cid) M12_isAhead 0 eB [(0, .ref (ad 12 0 0)), (1, .int x1), (2, .int x2)] 2 [] σ ((F12_isAhead_L2 x1 n σ x2).bind (fun v => some (v, σ))) := by
  intro n
  induction n with
  | zero => intros; exact aw_none
  | succ n ih =>
    intro σ x2
    rw [F12_isAhead_L2.eq_2]
    refine aw_iload_n 2 dX12_isAhead_2 rfl rfl ?_
    refine aw_aload_n 0 dX12_isAhead_3 rfl rfl ?_
    refine aw_getf (fg_12_20 (by decide)) ci_12 (by decide) w_1478 dX12_isAhead_4 ?_
    refine aw_bipush 6 dX12_isAhead_7 (by decide) ?_
    refine aw_iaload (ar_12_5 (by decide)) dX12_isAhead_9 (fun v_1 => ?_)
    refine aw_icmp_ge 47 dX12_isAhead_10 (by decide) ?_ ?_
    · refine aw_iconst 1 dX12_isAhead_47 (by decide) ?_
      exact aw_zreturn (b := true) rfl rfl dX12_isAhead_48
    · refine aw_iload_n 2 dX12_isAhead_13 rfl rfl ?_
      refine aw_iload_n 1 dX12_isAhead_14 rfl rfl ?_
      refine aw_icmp_eq 41 dX12_isAhead_15 (by decide) ?_ ?_
      · refine aw_iinc (ls' := [(0, .ref (ad 12 0 0)), (1, .int x1), (2, .int (x2 + 1))]) (x2 + 1) 2 [1, 2, 0] dX12_isAhead_41 rfl (by rfl) (by decide) rfl ?_
        refine aw_goto 2 dX12_isAhead_44 (by decide) ?_
        exact ih σ (x2 + 1)
      · refine aw_aload_n 0 dX12_isAhead_18 rfl rfl ?_
        refine aw_getf (fg_12_20 (by decide)) ci_12 (by decide) w_1478 dX12_isAhead_19 ?_
        refine aw_bipush 77 dX12_isAhead_22 (by decide) ?_
        refine aw_iload_n 2 dX12_isAhead_24 rfl rfl ?_
        refine aw_iadd dX12_isAhead_25 ?_
        refine aw_iaload (ar_12_5 (by decide)) dX12_isAhead_26 (fun v_2 => ?_)
        refine aw_aload_n 0 dX12_isAhead_27 rfl rfl ?_
        refine aw_getf (fg_12_20 (by decide)) ci_12 (by decide) w_1478 dX12_isAhead_28 ?_
        refine aw_bipush 77 dX12_isAhead_31 (by decide) ?_
        refine aw_iload_n 1 dX12_isAhead_33 rfl rfl ?_
        refine aw_iadd dX12_isAhead_34 ?_
        refine aw_iaload (ar_12_5 (by decide)) dX12_isAhead_35 (fun v_3 => ?_)
        refine aw_icmp_lt 41 dX12_isAhead_36 (by decide) ?_ ?_
        · refine aw_iinc (ls' := [(0, .ref (ad 12 0 0)), (1, .int x1), (2, .int (x2 + 1))]) (x2 + 1) 2 [1, 2, 0] dX12_isAhead_41 rfl (by rfl) (by decide) rfl ?_
          refine aw_goto 2 dX12_isAhead_44 (by decide) ?_
          exact ih σ (x2 + 1)
        · refine aw_iconst 0 dX12_isAhead_39 (by decide) ?_
          exact aw_zreturn (b := false) rfl rfl dX12_isAhead_40
def F12_isAhead (σ : Mem) (x1 : Int32) : Option Bool :=
  F12_isAhead_L2 x1 fuelK σ 0
set_option maxRecDepth 20000 in
theorem c12_isAhead {l : Launch} {D : va_G} {ad : Nat → Nat → Nat → Nat} {cid : Nat → Nat → Nat → ClassId} (σ : Mem) (x1 : Int32) : AMF (XM l D ad cid) M12_isAhead 0 eB [.ref (ad 12 0 0), .int x1] σ (oM σ (F12_isAhead σ x1)) := by
  refine AM.ofW (by decide +kernel) (Nat.le_of_ble_eq_true rfl) (ls := [(0, .ref (ad 12 0 0)), (1, .int x1)]) rfl ?_
  refine aw_entryO ?_
  unfold F12_isAhead
  refine aw_iconst 0 dX12_isAhead_0 (by decide) ?_
  refine aw_istore_n (ls' := [(0, .ref (ad 12 0 0)), (1, .int x1), (2, .int 0)]) [1, 2, 0] dX12_isAhead_1 rfl (by decide) rfl ?_
  exact c12_isAhead_L2 x1 fuelK σ 0
def F12_wins_L78 (x1 : Int32) (x2 : Int32) (x3 : Int32) : Nat → Mem → Int32 → Option ((Unit) × Mem)
  | 0 => fun _ _ => none
  | n + 1 => fun σ x4 =>
    if 323 ≤ x4 then (some ((), σ)) else ((ald 3000 (gI σ 12 0 5) x4).bind fun v_7 => chk 323 x4 <| bnd (sI σ 12 0 6 (Int32.toNatClampNeg x4) v_7) fun s_8 => (F12_wins_L78 x1 x2 x3 n) s_8 (x4 + 1))
set_option maxRecDepth 20000 in
theorem c12_wins_L78 {l : Launch} {D : va_G} {ad : Nat → Nat → Nat → Nat} {cid : Nat → Nat → Nat → ClassId} {α : Type} {emb : α → Option Value} (x1 : Int32) (x2 : Int32) (x3 : Int32) {G : Unit → Mem → Option (α × Mem)} (kx : ∀ r σ, AW (XM l D ad cid) M12_wins 24 emb [(0, .ref (ad 12 0 0)), (1, .int x1), (2, .int x2), (3, .int x3)] 106 [] σ (G r σ)) : ∀ (n : Nat) (σ : Mem) (x4 : Int32), AW (XM l D ad cid) M12_wins 24 emb [(0, .ref (ad 12 0 0)), (1, .int x1), (2, .int x2), (3, .int x3), (4, .int x4)] 78 [] σ (bd (F12_wins_L78 x1 x2 x3 n σ x4) G) := by
  intro n
  induction n with
  | zero => intros; exact aw_none
  | succ n ih =>
    intro σ x4
    refine aw_bdB ?_
    rw [F12_wins_L78.eq_2]
    refine aw_iload 4 dX12_wins_78 rfl ?_
    refine aw_sipush 323 dX12_wins_80 (by decide) ?_
    refine aw_icmp_ge 106 dX12_wins_83 (by decide) ?_ ?_
    · refine aw_ls (ls' := [(0, .ref (ad 12 0 0)), (1, .int x1), (2, .int x2), (3, .int x3)]) [0, 1, 2, 3] rfl ?_
      exact kx () σ
    · refine aw_aload_n 0 dX12_wins_86 rfl rfl ?_
      refine aw_getf (fg_12_21 (by decide)) ci_12 (by decide) w_1479 dX12_wins_87 ?_
      refine aw_iload 4 dX12_wins_90 rfl ?_
      refine aw_aload_n 0 dX12_wins_92 rfl rfl ?_
      refine aw_getf (fg_12_20 (by decide)) ci_12 (by decide) w_1478 dX12_wins_93 ?_
      refine aw_iload 4 dX12_wins_96 rfl ?_
      refine aw_iaload (ar_12_5 (by decide)) dX12_wins_98 (fun v_7 => ?_)
      refine aw_iastore (ar_12_6 (by decide)) dX12_wins_99 ?_
      refine aw_bndM (fun s_8 => ?_)
      refine aw_iinc (ls' := [(0, .ref (ad 12 0 0)), (1, .int x1), (2, .int x2), (3, .int x3), (4, .int (x4 + 1))]) (x4 + 1) 4 [1, 2, 3, 4, 0] dX12_wins_100 rfl (by rfl) (by decide) rfl ?_
      refine aw_goto 78 dX12_wins_103 (by decide) ?_
      exact ih s_8 (x4 + 1)
def F12_wins_L147 (x1 : Int32) (x2 : Int32) (x3 : Int32) (x4 : Int32) (x5 : Int32) : Nat → Mem → Int32 → Option ((Unit) × Mem)
  | 0 => fun _ _ => none
  | n + 1 => fun σ x6 =>
    if 323 ≤ x6 then (some ((), σ)) else ((ald 323 (gI σ 12 0 6) x6).bind fun v_14 => chk 3000 x6 <| bnd (sI σ 12 0 5 (Int32.toNatClampNeg x6) v_14) fun s_15 => (F12_wins_L147 x1 x2 x3 x4 x5 n) s_15 (x6 + 1))
set_option maxRecDepth 20000 in
theorem c12_wins_L147 {l : Launch} {D : va_G} {ad : Nat → Nat → Nat → Nat} {cid : Nat → Nat → Nat → ClassId} {α : Type} {emb : α → Option Value} (x1 : Int32) (x2 : Int32) (x3 : Int32) (x4 : Int32) (x5 : Int32) {G : Unit → Mem → Option (α × Mem)} (kx : ∀ r σ, AW (XM l D ad cid) M12_wins 24 emb [(0, .ref (ad 12 0 0)), (1, .int x1), (2, .int x2), (3, .int x3), (4, .int x4), (5, .int x5)] 175 [] σ (G r σ)) : ∀ (n : Nat) (σ : Mem) (x6 : Int32), AW (XM l D ad cid) M12_wins 24 emb [(0, .ref (ad 12 0 0)), (1, .int x1), (2, .int x2), (3, .int x3), (4, .int x4), (5, .int x5), (6, .int x6)] 147 [] σ (bd (F12_wins_L147 x1 x2 x3 x4 x5 n σ x6) G) := by
  intro n
  induction n with
  | zero => intros; exact aw_none
  | succ n ih =>
    intro σ x6
    refine aw_bdB ?_
    rw [F12_wins_L147.eq_2]
    refine aw_iload 6 dX12_wins_147 rfl ?_
    refine aw_sipush 323 dX12_wins_149 (by decide) ?_
    refine aw_icmp_ge 175 dX12_wins_152 (by decide) ?_ ?_
    · refine aw_ls (ls' := [(0, .ref (ad 12 0 0)), (1, .int x1), (2, .int x2), (3, .int x3), (4, .int x4), (5, .int x5)]) [0, 1, 2, 3, 4, 5] rfl ?_
      exact kx () σ
    · refine aw_aload_n 0 dX12_wins_155 rfl rfl ?_
      refine aw_getf (fg_12_20 (by decide)) ci_12 (by decide) w_1478 dX12_wins_156 ?_
      refine aw_iload 6 dX12_wins_159 rfl ?_
      refine aw_aload_n 0 dX12_wins_161 rfl rfl ?_
      refine aw_getf (fg_12_21 (by decide)) ci_12 (by decide) w_1479 dX12_wins_162 ?_
      refine aw_iload 6 dX12_wins_165 rfl ?_
      refine aw_iaload (ar_12_6 (by decide)) dX12_wins_167 (fun v_14 => ?_)
      refine aw_iastore (ar_12_5 (by decide)) dX12_wins_168 ?_
      refine aw_bndM (fun s_15 => ?_)
      refine aw_iinc (ls' := [(0, .ref (ad 12 0 0)), (1, .int x1), (2, .int x2), (3, .int x3), (4, .int x4), (5, .int x5), (6, .int (x6 + 1))]) (x6 + 1) 6 [1, 2, 3, 4, 5, 6, 0] dX12_wins_169 rfl (by rfl) (by decide) rfl ?_
      refine aw_goto 147 dX12_wins_172 (by decide) ?_
      exact ih s_15 (x6 + 1)
def F12_wins_L112 (x1 : Int32) (x2 : Int32) (x3 : Int32) : Nat → Mem → Int32 → Int32 → Option ((Int32) × Mem)
  | 0 => fun _ _ _ => none
  | n + 1 => fun σ x4 x5 =>
    if x3 ≤ x5 then (some (x4, σ)) else (bd (F12_plays σ (x2 + x5)) fun _ s_11 => (F12_isAhead s_11 x1).bind fun v_12 => if v_12 = true then (bnd (x4 + 1) fun v_18 => bd (F12_wins_L147 x1 x2 x3 v_18 x5 fuelK s_11 0) fun r_19 s_20 => (F12_wins_L112 x1 x2 x3 n) s_20 v_18 (x5 + 1)) else (bnd (x4 + 0) fun v_13 => bd (F12_wins_L147 x1 x2 x3 v_13 x5 fuelK s_11 0) fun r_16 s_17 => (F12_wins_L112 x1 x2 x3 n) s_17 v_13 (x5 + 1)))
set_option maxRecDepth 20000 in
theorem c12_wins_L112 {l : Launch} {D : va_G} {ad : Nat → Nat → Nat → Nat} {cid : Nat → Nat → Nat → ClassId} {α : Type} {emb : α → Option Value} (x1 : Int32) (x2 : Int32) (x3 : Int32) {G : Int32 → Mem → Option (α × Mem)} (kx : ∀ r σ, AW (XM l D ad cid) M12_wins 24 emb [(0, .ref (ad 12 0 0)), (3, .int x3), (4, .int r)] 181 [] σ (G r σ)) : ∀ (n : Nat) (σ : Mem) (x4 : Int32) (x5 : Int32), AW (XM l D ad cid) M12_wins 24 emb [(0, .ref (ad 12 0 0)), (1, .int x1), (2, .int x2), (3, .int x3), (4, .int x4), (5, .int x5)] 112 [] σ (bd (F12_wins_L112 x1 x2 x3 n σ x4 x5) G) := by
  intro n
  induction n with
  | zero => intros; exact aw_none
  | succ n ih =>
    intro σ x4 x5
    refine aw_bdB ?_
    rw [F12_wins_L112.eq_2]
    refine aw_iload 5 dX12_wins_112 rfl ?_
    refine aw_iload_n 3 dX12_wins_114 rfl rfl ?_
    refine aw_icmp_ge 181 dX12_wins_115 (by decide) ?_ ?_
    · refine aw_ls (ls' := [(0, .ref (ad 12 0 0)), (3, .int x3), (4, .int x4)]) [0, 3, 4] rfl ?_
      exact kx x4 σ
    · refine aw_aload_n 0 dX12_wins_118 rfl rfl ?_
      refine aw_iload_n 2 dX12_wins_119 rfl rfl ?_
      refine aw_iload 5 dX12_wins_120 rfl ?_
      refine aw_iadd dX12_wins_122 ?_
      refine aw_callVW_U (c12_plays σ (x2 + x5)) (io_12 (by decide)) ci_12 (by decide) mk_12_plays w_2191 w_130 w_2189 rfl rfl (Nat.le_of_ble_eq_true rfl) dX12_wins_123 (fun _ s_11 => ?_)
      refine aw_iload 4 dX12_wins_126 rfl ?_
      refine aw_aload_n 0 dX12_wins_128 rfl rfl ?_
      refine aw_iload_n 1 dX12_wins_129 rfl rfl ?_
      refine aw_callVO_B (c12_isAhead s_11 x1) (io_12 (by decide)) ci_12 (by decide) mk_12_isAhead w_2232 w_138 w_2230 rfl rfl (Nat.le_of_ble_eq_true rfl) dX12_wins_130 (fun v_12 => ?_)
      refine aw_bif_eq 140 dX12_wins_133 (by decide) ?_ ?_
      · refine aw_iconst 0 dX12_wins_140 (by decide) ?_
        refine aw_iadd dX12_wins_141 ?_
        refine aw_bnd_int (fun v_13 => ?_)
        refine aw_istore (ls' := [(0, .ref (ad 12 0 0)), (1, .int x1), (2, .int x2), (3, .int x3), (4, .int v_13), (5, .int x5)]) [1, 2, 3, 4, 0, 5] dX12_wins_142 (by decide) rfl ?_
        refine aw_iconst 0 dX12_wins_144 (by decide) ?_
        refine aw_istore (ls' := [(0, .ref (ad 12 0 0)), (1, .int x1), (2, .int x2), (3, .int x3), (4, .int v_13), (5, .int x5), (6, .int 0)]) [1, 2, 3, 4, 5, 6, 0] dX12_wins_145 (by decide) rfl ?_
        refine aw_assocW ?_
        refine c12_wins_L147 x1 x2 x3 v_13 x5 (fun r_16 s_17 => ?_) fuelK s_11 0
        refine aw_iinc (ls' := [(0, .ref (ad 12 0 0)), (1, .int x1), (2, .int x2), (3, .int x3), (4, .int v_13), (5, .int (x5 + 1))]) (x5 + 1) 5 [1, 2, 3, 4, 5, 0] dX12_wins_175 rfl (by rfl) (by decide) rfl ?_
        refine aw_goto 112 dX12_wins_178 (by decide) ?_
        exact ih s_17 v_13 (x5 + 1)
      · refine aw_iconst 1 dX12_wins_136 (by decide) ?_
        refine aw_goto 141 dX12_wins_137 (by decide) ?_
        refine aw_iadd dX12_wins_141 ?_
        refine aw_bnd_int (fun v_18 => ?_)
        refine aw_istore (ls' := [(0, .ref (ad 12 0 0)), (1, .int x1), (2, .int x2), (3, .int x3), (4, .int v_18), (5, .int x5)]) [1, 2, 3, 4, 0, 5] dX12_wins_142 (by decide) rfl ?_
        refine aw_iconst 0 dX12_wins_144 (by decide) ?_
        refine aw_istore (ls' := [(0, .ref (ad 12 0 0)), (1, .int x1), (2, .int x2), (3, .int x3), (4, .int v_18), (5, .int x5), (6, .int 0)]) [1, 2, 3, 4, 5, 6, 0] dX12_wins_145 (by decide) rfl ?_
        refine aw_assocW ?_
        refine c12_wins_L147 x1 x2 x3 v_18 x5 (fun r_19 s_20 => ?_) fuelK s_11 0
        refine aw_iinc (ls' := [(0, .ref (ad 12 0 0)), (1, .int x1), (2, .int x2), (3, .int x3), (4, .int v_18), (5, .int (x5 + 1))]) (x5 + 1) 5 [1, 2, 3, 4, 5, 0] dX12_wins_175 rfl (by rfl) (by decide) rfl ?_
        refine aw_goto 112 dX12_wins_178 (by decide) ?_
        exact ih s_20 v_18 (x5 + 1)
def F12_wins (σ : Mem) (x1 : Int32) (x2 : Int32) (x3 : Int32) : Option (Bool × Mem) :=
  bnd (sI σ 12 0 0 1 0) fun s_1 => bnd (sI s_1 12 0 0 0 0) fun s_2 => (F12_isShooterAt s_2 x1).bind fun v_3 => if v_3 = true then (if (F12_isIn (Int32.toInt64 x3) 1 20) = true then (if (F12_isIn (Int32.toInt64 x2) 0 (Int32.toInt64 (10000 - x3))) = true then ((ald 3000 (gI s_2 12 0 5) 323).bind fun v_6 => if v_6 = 0 then (bd (F12_no s_2 8) fun v_25 s_26 => some (v_25, s_26)) else (bd (F12_wins_L78 x1 x2 x3 fuelK s_2 0) fun r_9 s_10 => bd (F12_wins_L112 x1 x2 x3 fuelK s_10 0 0) fun r_21 s_22 => bd (F12_fraction s_22 (Int32.toInt64 r_21) (Int32.toInt64 x3)) fun v_23 s_24 => some (v_23, s_24))) else (bd (F12_no s_2 5) fun v_27 s_28 => some (v_27, s_28))) else (bd (F12_no s_2 5) fun v_4 s_5 => some (v_4, s_5))) else (bd (F12_no s_2 2) fun v_29 s_30 => some (v_29, s_30))
set_option maxRecDepth 20000 in
theorem c12_wins {l : Launch} {D : va_G} {ad : Nat → Nat → Nat → Nat} {cid : Nat → Nat → Nat → ClassId} (σ : Mem) (x1 : Int32) (x2 : Int32) (x3 : Int32) : AMF (XM l D ad cid) M12_wins 24 eB [.ref (ad 12 0 0), .int x1, .int x2, .int x3] σ (F12_wins σ x1 x2 x3) := by
  refine AM.ofW (by decide +kernel) (Nat.le_of_ble_eq_true rfl) (ls := [(0, .ref (ad 12 0 0)), (1, .int x1), (2, .int x2), (3, .int x3)]) rfl ?_
  refine aw_entry ?_
  unfold F12_wins
  refine aw_aload_n 0 dX12_wins_0 rfl rfl ?_
  refine aw_iconst 0 dX12_wins_1 (by decide) ?_
  refine aw_putI (fs_12_1 (by decide)) ci_12 (by decide) rfl rfl w_1459 dX12_wins_2 ?_
  refine aw_bndM (fun s_1 => ?_)
  refine aw_aload_n 0 dX12_wins_5 rfl rfl ?_
  refine aw_iconst 0 dX12_wins_6 (by decide) ?_
  refine aw_putI (fs_12_0 (by decide)) ci_12 (by decide) rfl rfl w_1458 dX12_wins_7 ?_
  refine aw_bndM (fun s_2 => ?_)
  refine aw_aload_n 0 dX12_wins_10 rfl rfl ?_
  refine aw_iload_n 1 dX12_wins_11 rfl rfl ?_
  refine aw_callVO_B (c12_isShooterAt s_2 x1) (io_12 (by decide)) ci_12 (by decide) mk_12_isShooterAt w_1945 w_104 w_1943 rfl rfl (Nat.le_of_ble_eq_true rfl) dX12_wins_12 (fun v_3 => ?_)
  refine aw_bif_ne 24 dX12_wins_15 (by decide) ?_ ?_
  · refine aw_iload_n 3 dX12_wins_24 rfl rfl ?_
    refine aw_i2l dX12_wins_25 ?_
    refine aw_lconst 1 dX12_wins_26 (by decide) ?_
    refine aw_ldc2 w_1968 dX12_wins_27 ?_
    refine aw_callST_B (c12_isIn s_2 (Int32.toInt64 x3) 1 20) (by decide) mk_12_isIn w_1754 w_1753 rfl rfl (Nat.le_of_ble_eq_true rfl) dX12_wins_30 ?_
    refine aw_bif_eq 51 dX12_wins_33 (by decide) ?_ ?_
    · refine aw_aload_n 0 dX12_wins_51 rfl rfl ?_
      refine aw_iconst 5 dX12_wins_52 (by decide) ?_
      refine aw_callVW_B (c12_no s_2 5) (io_12 (by decide)) ci_12 (by decide) mk_12_no w_1660 w_49 w_1658 rfl rfl (Nat.le_of_ble_eq_true rfl) dX12_wins_53 (fun v_4 s_5 => ?_)
      exact aw_zreturn (b := v_4) rfl rfl dX12_wins_56
    · refine aw_iload_n 2 dX12_wins_36 rfl rfl ?_
      refine aw_i2l dX12_wins_37 ?_
      refine aw_lconst 0 dX12_wins_38 (by decide) ?_
      refine aw_sipush 10000 dX12_wins_39 (by decide) ?_
      refine aw_iload_n 3 dX12_wins_42 rfl rfl ?_
      refine aw_isub dX12_wins_43 ?_
      refine aw_i2l dX12_wins_44 ?_
      refine aw_callST_B (c12_isIn s_2 (Int32.toInt64 x2) 0 (Int32.toInt64 (10000 - x3))) (by decide) mk_12_isIn w_1754 w_1753 rfl rfl (Nat.le_of_ble_eq_true rfl) dX12_wins_45 ?_
      refine aw_bif_ne 57 dX12_wins_48 (by decide) ?_ ?_
      · refine aw_aload_n 0 dX12_wins_57 rfl rfl ?_
        refine aw_getf (fg_12_20 (by decide)) ci_12 (by decide) w_1478 dX12_wins_58 ?_
        refine aw_sipush 323 dX12_wins_61 (by decide) ?_
        refine aw_iaload (ar_12_5 (by decide)) dX12_wins_64 (fun v_6 => ?_)
        refine aw_if_ne 75 dX12_wins_65 (by decide) ?_ ?_
        · refine aw_iconst 0 dX12_wins_75 (by decide) ?_
          refine aw_istore (ls' := [(0, .ref (ad 12 0 0)), (1, .int x1), (2, .int x2), (3, .int x3), (4, .int 0)]) [1, 2, 3, 4, 0] dX12_wins_76 (by decide) rfl ?_
          refine aw_assocW ?_
          refine c12_wins_L78 x1 x2 x3 (fun r_9 s_10 => ?_) fuelK s_2 0
          refine aw_iconst 0 dX12_wins_106 (by decide) ?_
          refine aw_istore (ls' := [(0, .ref (ad 12 0 0)), (1, .int x1), (2, .int x2), (3, .int x3), (4, .int 0)]) [1, 2, 3, 4, 0] dX12_wins_107 (by decide) rfl ?_
          refine aw_iconst 0 dX12_wins_109 (by decide) ?_
          refine aw_istore (ls' := [(0, .ref (ad 12 0 0)), (1, .int x1), (2, .int x2), (3, .int x3), (4, .int 0), (5, .int 0)]) [1, 2, 3, 4, 5, 0] dX12_wins_110 (by decide) rfl ?_
          refine aw_assocW ?_
          refine c12_wins_L112 x1 x2 x3 (fun r_21 s_22 => ?_) fuelK s_10 0 0
          refine aw_aload_n 0 dX12_wins_181 rfl rfl ?_
          refine aw_iload 2 dX12_wins_182 rfl ?_
          refine aw_i2l dX12_wins_184 ?_
          refine aw_iload_n 1 dX12_wins_185 rfl rfl ?_
          refine aw_i2l dX12_wins_186 ?_
          refine aw_callVW_B (c12_fraction s_22 (Int32.toInt64 r_21) (Int32.toInt64 x3)) (io_12 (by decide)) ci_12 (by decide) mk_12_fraction w_2052 w_117 w_2050 rfl rfl (Nat.le_of_ble_eq_true rfl) dX12_wins_187 (fun v_23 s_24 => ?_)
          exact aw_zreturn (b := v_23) rfl rfl dX12_wins_190
        · refine aw_aload_n 0 dX12_wins_68 rfl rfl ?_
          refine aw_bipush 8 dX12_wins_69 (by decide) ?_
          refine aw_callVW_B (c12_no s_2 8) (io_12 (by decide)) ci_12 (by decide) mk_12_no w_1660 w_49 w_1658 rfl rfl (Nat.le_of_ble_eq_true rfl) dX12_wins_71 (fun v_25 s_26 => ?_)
          exact aw_zreturn (b := v_25) rfl rfl dX12_wins_74
      · refine aw_aload_n 0 dX12_wins_51 rfl rfl ?_
        refine aw_iconst 5 dX12_wins_52 (by decide) ?_
        refine aw_callVW_B (c12_no s_2 5) (io_12 (by decide)) ci_12 (by decide) mk_12_no w_1660 w_49 w_1658 rfl rfl (Nat.le_of_ble_eq_true rfl) dX12_wins_53 (fun v_27 s_28 => ?_)
        exact aw_zreturn (b := v_27) rfl rfl dX12_wins_56
  · refine aw_aload_n 0 dX12_wins_18 rfl rfl ?_
    refine aw_iconst 2 dX12_wins_19 (by decide) ?_
    refine aw_callVW_B (c12_no s_2 2) (io_12 (by decide)) ci_12 (by decide) mk_12_no w_1660 w_49 w_1658 rfl rfl (Nat.le_of_ble_eq_true rfl) dX12_wins_20 (fun v_29 s_30 => ?_)
    exact aw_zreturn (b := v_29) rfl rfl dX12_wins_23
def F12_mark (σ : Mem)  : Option (Int32 × Mem) :=
  bnd (sI σ 12 0 0 1 0) fun s_1 => bnd (sI s_1 12 0 0 0 0) fun s_2 => if (gI s_2 12 0 0 23) = 3 then (bd (F12_refuse s_2 7) fun v_5 s_6 => some (v_5, s_6)) else (bnd (sI s_2 12 0 0 23 ((gI s_2 12 0 0 23) + 1)) fun s_3 => bd (F12_copy s_3 0 (gI s_3 12 0 0 23)) fun _ s_4 => some ((gI s_4 12 0 0 23), s_4))
set_option maxRecDepth 20000 in
theorem c12_mark {l : Launch} {D : va_G} {ad : Nat → Nat → Nat → Nat} {cid : Nat → Nat → Nat → ClassId} (σ : Mem)  : AMF (XM l D ad cid) M12_mark 1 eI [.ref (ad 12 0 0)] σ (F12_mark σ) := by
  refine AM.ofW (by decide +kernel) (Nat.le_of_ble_eq_true rfl) (ls := [(0, .ref (ad 12 0 0))]) rfl ?_
  refine aw_entry ?_
  unfold F12_mark
  refine aw_aload_n 0 dX12_mark_0 rfl rfl ?_
  refine aw_iconst 0 dX12_mark_1 (by decide) ?_
  refine aw_putI (fs_12_1 (by decide)) ci_12 (by decide) rfl rfl w_1459 dX12_mark_2 ?_
  refine aw_bndM (fun s_1 => ?_)
  refine aw_aload_n 0 dX12_mark_5 rfl rfl ?_
  refine aw_iconst 0 dX12_mark_6 (by decide) ?_
  refine aw_putI (fs_12_0 (by decide)) ci_12 (by decide) rfl rfl w_1458 dX12_mark_7 ?_
  refine aw_bndM (fun s_2 => ?_)
  refine aw_aload_n 0 dX12_mark_10 rfl rfl ?_
  refine aw_getf (fg_12_23 (by decide)) ci_12 (by decide) w_1481 dX12_mark_11 ?_
  refine aw_iconst 3 dX12_mark_14 (by decide) ?_
  refine aw_icmp_ne 25 dX12_mark_15 (by decide) ?_ ?_
  · refine aw_aload_n 0 dX12_mark_25 rfl rfl ?_
    refine aw_dup dX12_mark_26 rfl ?_
    refine aw_getf (fg_12_23 (by decide)) ci_12 (by decide) w_1481 dX12_mark_27 ?_
    refine aw_iconst 1 dX12_mark_30 (by decide) ?_
    refine aw_iadd dX12_mark_31 ?_
    refine aw_putI (fs_12_23 (by decide)) ci_12 (by decide) rfl rfl w_1481 dX12_mark_32 ?_
    refine aw_bndM (fun s_3 => ?_)
    refine aw_aload_n 0 dX12_mark_35 rfl rfl ?_
    refine aw_iconst 0 dX12_mark_36 (by decide) ?_
    refine aw_aload_n 0 dX12_mark_37 rfl rfl ?_
    refine aw_getf (fg_12_23 (by decide)) ci_12 (by decide) w_1481 dX12_mark_38 ?_
    refine aw_callVW_U (c12_copy s_3 0 (gI s_3 12 0 0 23)) (io_12 (by decide)) ci_12 (by decide) mk_12_copy w_1888 w_95 w_1886 rfl rfl (Nat.le_of_ble_eq_true rfl) dX12_mark_41 (fun _ s_4 => ?_)
    refine aw_aload_n 0 dX12_mark_44 rfl rfl ?_
    refine aw_getf (fg_12_23 (by decide)) ci_12 (by decide) w_1481 dX12_mark_45 ?_
    exact aw_ireturn rfl dX12_mark_48
  · refine aw_aload_n 0 dX12_mark_18 rfl rfl ?_
    refine aw_bipush 7 dX12_mark_19 (by decide) ?_
    refine aw_callVW_I (c12_refuse s_2 7) (io_12 (by decide)) ci_12 (by decide) mk_12_refuse w_1921 w_101 w_1919 rfl rfl (Nat.le_of_ble_eq_true rfl) dX12_mark_21 (fun v_5 s_6 => ?_)
    exact aw_ireturn rfl dX12_mark_24
def F12_back (σ : Mem)  : Option (Int32 × Mem) :=
  bnd (sI σ 12 0 0 1 0) fun s_1 => bnd (sI s_1 12 0 0 0 0) fun s_2 => if (gI s_2 12 0 0 23) = 0 then (bd (F12_refuse s_2 8) fun v_5 s_6 => some (v_5, s_6)) else (bd (F12_copy s_2 (gI s_2 12 0 0 23) 0) fun _ s_3 => bnd (sI s_3 12 0 0 23 ((gI s_3 12 0 0 23) - 1)) fun s_4 => some ((gI s_4 12 0 0 23), s_4))
set_option maxRecDepth 20000 in
theorem c12_back {l : Launch} {D : va_G} {ad : Nat → Nat → Nat → Nat} {cid : Nat → Nat → Nat → ClassId} (σ : Mem)  : AMF (XM l D ad cid) M12_back 1 eI [.ref (ad 12 0 0)] σ (F12_back σ) := by
  refine AM.ofW (by decide +kernel) (Nat.le_of_ble_eq_true rfl) (ls := [(0, .ref (ad 12 0 0))]) rfl ?_
  refine aw_entry ?_
  unfold F12_back
  refine aw_aload_n 0 dX12_back_0 rfl rfl ?_
  refine aw_iconst 0 dX12_back_1 (by decide) ?_
  refine aw_putI (fs_12_1 (by decide)) ci_12 (by decide) rfl rfl w_1459 dX12_back_2 ?_
  refine aw_bndM (fun s_1 => ?_)
  refine aw_aload_n 0 dX12_back_5 rfl rfl ?_
  refine aw_iconst 0 dX12_back_6 (by decide) ?_
  refine aw_putI (fs_12_0 (by decide)) ci_12 (by decide) rfl rfl w_1458 dX12_back_7 ?_
  refine aw_bndM (fun s_2 => ?_)
  refine aw_aload_n 0 dX12_back_10 rfl rfl ?_
  refine aw_getf (fg_12_23 (by decide)) ci_12 (by decide) w_1481 dX12_back_11 ?_
  refine aw_if_ne 24 dX12_back_14 (by decide) ?_ ?_
  · refine aw_aload_n 0 dX12_back_24 rfl rfl ?_
    refine aw_aload_n 0 dX12_back_25 rfl rfl ?_
    refine aw_getf (fg_12_23 (by decide)) ci_12 (by decide) w_1481 dX12_back_26 ?_
    refine aw_iconst 0 dX12_back_29 (by decide) ?_
    refine aw_callVW_U (c12_copy s_2 (gI s_2 12 0 0 23) 0) (io_12 (by decide)) ci_12 (by decide) mk_12_copy w_1888 w_95 w_1886 rfl rfl (Nat.le_of_ble_eq_true rfl) dX12_back_30 (fun _ s_3 => ?_)
    refine aw_aload_n 0 dX12_back_33 rfl rfl ?_
    refine aw_dup dX12_back_34 rfl ?_
    refine aw_getf (fg_12_23 (by decide)) ci_12 (by decide) w_1481 dX12_back_35 ?_
    refine aw_iconst 1 dX12_back_38 (by decide) ?_
    refine aw_isub dX12_back_39 ?_
    refine aw_putI (fs_12_23 (by decide)) ci_12 (by decide) rfl rfl w_1481 dX12_back_40 ?_
    refine aw_bndM (fun s_4 => ?_)
    refine aw_aload_n 0 dX12_back_43 rfl rfl ?_
    refine aw_getf (fg_12_23 (by decide)) ci_12 (by decide) w_1481 dX12_back_44 ?_
    exact aw_ireturn rfl dX12_back_47
  · refine aw_aload_n 0 dX12_back_17 rfl rfl ?_
    refine aw_bipush 8 dX12_back_18 (by decide) ?_
    refine aw_callVW_I (c12_refuse s_2 8) (io_12 (by decide)) ci_12 (by decide) mk_12_refuse w_1921 w_101 w_1919 rfl rfl (Nat.le_of_ble_eq_true rfl) dX12_back_20 (fun v_5 s_6 => ?_)
    exact aw_ireturn rfl dX12_back_23
