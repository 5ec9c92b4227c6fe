def F4_behindEnd (σ : Mem) (t0 : Nat) (t1 : Nat) (x2 : Int32) : Option (Int32 × Mem) :=
  (ald 60 (gI σ 5 t1 5) x2).bind fun v_1 => if (F11_within v_1 0 (x2 - 1)) = true then ((ald 60 (gI σ 5 t1 1) v_1).bind fun v_2 => if v_2 = 27 then ((ald 60 (gI σ 4 t0 1) v_1).bind fun v_3 => chk 60 v_1 <| bnd (sI σ 4 t0 1 (Int32.toNatClampNeg v_1) (v_3 - 1)) fun s_4 => (ald 60 (gI s_4 4 t0 1) v_1).bind fun v_5 => if v_5 ≤ 0 then (some ((x2 + 1), s_4)) else (some ((v_1 + 1), s_4))) else (some ((x2 + 1), σ))) else (some ((x2 + 1), σ))
set_option maxRecDepth 20000 in
theorem c4_behindEnd {l : Launch} {D : va_G} {ad : Nat → Nat → Nat → Nat} {cid : Nat → Nat → Nat → ClassId} (σ : Mem) (t0 : Nat) (ht0 : t0 < 2) (t1 : Nat) (ht1 : t1 < 5) (x2 : Int32) : AMF (XC l D ad cid) M4_behindEnd 1 eI [.ref (ad 4 t0 0), .ref (ad 5 t1 0), .int x2] σ (F4_behindEnd σ t0 t1 x2) := by
  refine AM.ofW (by decide +kernel) (Nat.le_of_ble_eq_true rfl) (ls := [(0, .ref (ad 4 t0 0)), (1, .ref (ad 5 t1 0)), (2, .int x2)]) rfl ?_
  refine aw_entry ?_
  unfold F4_behindEnd
  refine aw_aload_n 1 dX4_behindEnd_0 rfl rfl ?_
  refine aw_getf (fg_5_7 (by omega)) ci_5 (by decide) w_430 dX4_behindEnd_1 ?_
  refine aw_iload_n 2 dX4_behindEnd_4 rfl rfl ?_
  refine aw_iaload (ar_5_5 (by omega)) dX4_behindEnd_5 (fun v_1 => ?_)
  refine aw_istore_n (ls' := [(0, .ref (ad 4 t0 0)), (1, .ref (ad 5 t1 0)), (2, .int x2), (3, .int v_1)]) [1, 2, 3, 0] dX4_behindEnd_6 rfl (by decide) rfl ?_
  refine aw_iload_n 3 dX4_behindEnd_7 rfl rfl ?_
  refine aw_iconst 0 dX4_behindEnd_8 (by decide) ?_
  refine aw_iload_n 2 dX4_behindEnd_9 rfl rfl ?_
  refine aw_iconst 1 dX4_behindEnd_10 (by decide) ?_
  refine aw_isub dX4_behindEnd_11 ?_
  refine aw_callNT_B (c11_within σ v_1 0 (x2 - 1)) (by decide) mk_11_within w_798 (List.mem_of_getElem? (i := 13) rfl) rfl rfl (Nat.le_of_ble_eq_true rfl) dX4_behindEnd_12 ?_
  refine aw_bif_eq 52 dX4_behindEnd_15 (by decide) ?_ ?_
  · refine aw_iload_n 2 dX4_behindEnd_52 rfl rfl ?_
    refine aw_iconst 1 dX4_behindEnd_53 (by decide) ?_
    refine aw_iadd dX4_behindEnd_54 ?_
    exact aw_ireturn rfl dX4_behindEnd_55
  · refine aw_aload_n 1 dX4_behindEnd_18 rfl rfl ?_
    refine aw_getf (fg_5_3 (by omega)) ci_5 (by decide) w_422 dX4_behindEnd_19 ?_
    refine aw_iload_n 3 dX4_behindEnd_22 rfl rfl ?_
    refine aw_iaload (ar_5_1 (by omega)) dX4_behindEnd_23 (fun v_2 => ?_)
    refine aw_bipush 27 dX4_behindEnd_24 (by decide) ?_
    refine aw_icmp_ne 52 dX4_behindEnd_26 (by decide) ?_ ?_
    · refine aw_iload_n 2 dX4_behindEnd_52 rfl rfl ?_
      refine aw_iconst 1 dX4_behindEnd_53 (by decide) ?_
      refine aw_iadd dX4_behindEnd_54 ?_
      exact aw_ireturn rfl dX4_behindEnd_55
    · refine aw_aload_n 0 dX4_behindEnd_29 rfl rfl ?_
      refine aw_getf (fg_4_10 (by omega)) ci_4 (by decide) w_690 dX4_behindEnd_30 ?_
      refine aw_iload_n 3 dX4_behindEnd_33 rfl rfl ?_
      refine aw_dup2_11 dX4_behindEnd_34 rfl rfl ?_
      refine aw_iaload (ar_4_1 (by omega)) dX4_behindEnd_35 (fun v_3 => ?_)
      refine aw_iconst 1 dX4_behindEnd_36 (by decide) ?_
      refine aw_isub dX4_behindEnd_37 ?_
      refine aw_iastore (ar_4_1 (by omega)) dX4_behindEnd_38 ?_
      refine aw_bndM (fun s_4 => ?_)
      refine aw_aload_n 0 dX4_behindEnd_39 rfl rfl ?_
      refine aw_getf (fg_4_10 (by omega)) ci_4 (by decide) w_690 dX4_behindEnd_40 ?_
      refine aw_iload_n 3 dX4_behindEnd_43 rfl rfl ?_
      refine aw_iaload (ar_4_1 (by omega)) dX4_behindEnd_44 (fun v_5 => ?_)
      refine aw_if_le 52 dX4_behindEnd_45 (by decide) ?_ ?_
      · refine aw_iload_n 2 dX4_behindEnd_52 rfl rfl ?_
        refine aw_iconst 1 dX4_behindEnd_53 (by decide) ?_
        refine aw_iadd dX4_behindEnd_54 ?_
        exact aw_ireturn rfl dX4_behindEnd_55
      · refine aw_iload_n 3 dX4_behindEnd_48 rfl rfl ?_
        refine aw_iconst 1 dX4_behindEnd_49 (by decide) ?_
        refine aw_iadd dX4_behindEnd_50 ?_
        exact aw_ireturn rfl dX4_behindEnd_51
def F4_holds_p56 (σ : Mem) (t0 : Nat) (x1 : Int32) (x4 : Int32) : Option Bool :=
  (ald 60 (gI σ 5 t0 3) x1).bind fun v_2 => if v_2 = 60 then ((ald 60 (gI σ 5 t0 4) x1).bind fun v_4 => if v_4 ≤ x4 then (some false) else (some true)) else if v_2 = 62 then ((ald 60 (gI σ 5 t0 4) x1).bind fun v_6 => if x4 ≤ v_6 then (some false) else (some true)) else ((ald 60 (gI σ 5 t0 4) x1).bind fun v_7 => if x4 = v_7 then (some true) else (some false))
set_option maxRecDepth 20000 in
theorem c4_holds_p56 {l : Launch} {D : va_G} {ad : Nat → Nat → Nat → Nat} {cid : Nat → Nat → Nat → ClassId} (σ : Mem) (t0 : Nat) (ht0 : t0 < 5) (x1 : Int32) (x4 : Int32) : AW (XC l D ad cid) M4_holds 1 eB [(0, .ref (ad 5 t0 0)), (1, .int x1), (4, .int x4)] 56 [] σ ((F4_holds_p56 σ t0 x1 x4).bind (fun v => some (v, σ))) := by
  unfold F4_holds_p56
  refine aw_aload_n 0 dX4_holds_56 rfl rfl ?_
  refine aw_getf (fg_5_5 (by omega)) ci_5 (by decide) w_426 dX4_holds_57 ?_
  refine aw_iload_n 1 dX4_holds_60 rfl rfl ?_
  refine aw_iaload (ar_5_3 (by omega)) dX4_holds_61 (fun v_2 => ?_)
  refine aw_case (c := 60) (fun h_3 => ?_) (fun h_3 => ?_)
  · refine aw_lookup 88 dX4_holds_62 (by decide) (by rw [h_3]) rfl ?_
    refine aw_iload 2 dX4_holds_88 rfl ?_
    refine aw_aload_n 0 dX4_holds_90 rfl rfl ?_
    refine aw_getf (fg_5_6 (by omega)) ci_5 (by decide) w_428 dX4_holds_91 ?_
    refine aw_iload_n 1 dX4_holds_94 rfl rfl ?_
    refine aw_iaload (ar_5_4 (by omega)) dX4_holds_95 (fun v_4 => ?_)
    refine aw_icmp_ge 103 dX4_holds_96 (by decide) ?_ ?_
    · refine aw_iconst 0 dX4_holds_103 (by decide) ?_
      exact aw_zreturn (b := false) rfl rfl dX4_holds_104
    · refine aw_iconst 1 dX4_holds_99 (by decide) ?_
      refine aw_goto 104 dX4_holds_100 (by decide) ?_
      exact aw_zreturn (b := true) rfl rfl dX4_holds_104
  refine aw_case (c := 62) (fun h_5 => ?_) (fun h_5 => ?_)
  · refine aw_lookup 105 dX4_holds_62 (by decide) (by rw [h_5]) rfl ?_
    refine aw_iload 2 dX4_holds_105 rfl ?_
    refine aw_aload_n 0 dX4_holds_107 rfl rfl ?_
    refine aw_getf (fg_5_6 (by omega)) ci_5 (by decide) w_428 dX4_holds_108 ?_
    refine aw_iload_n 1 dX4_holds_111 rfl rfl ?_
    refine aw_iaload (ar_5_4 (by omega)) dX4_holds_112 (fun v_6 => ?_)
    refine aw_icmp_le 120 dX4_holds_113 (by decide) ?_ ?_
    · refine aw_iconst 0 dX4_holds_120 (by decide) ?_
      exact aw_zreturn (b := false) rfl rfl dX4_holds_121
    · refine aw_iconst 1 dX4_holds_116 (by decide) ?_
      refine aw_goto 121 dX4_holds_117 (by decide) ?_
      exact aw_zreturn (b := true) rfl rfl dX4_holds_121
  refine aw_lookup 122 dX4_holds_62 (by decide) (off := 60) (by have eh_3 : v_2.toInt ≠ 60 := ne_toInt h_3; have eh_5 : v_2.toInt ≠ 62 := ne_toInt h_5; simp [Op.lookupswitch.offset, eh_3.symm, eh_5.symm]) (by decide) ?_
  refine aw_iload 2 dX4_holds_122 rfl ?_
  refine aw_aload_n 0 dX4_holds_124 rfl rfl ?_
  refine aw_getf (fg_5_6 (by omega)) ci_5 (by decide) w_428 dX4_holds_125 ?_
  refine aw_iload_n 1 dX4_holds_128 rfl rfl ?_
  refine aw_iaload (ar_5_4 (by omega)) dX4_holds_129 (fun v_7 => ?_)
  refine aw_icmp_ne 137 dX4_holds_130 (by decide) ?_ ?_
  · refine aw_iconst 0 dX4_holds_137 (by decide) ?_
    exact aw_zreturn (b := false) rfl rfl dX4_holds_138
  · refine aw_iconst 1 dX4_holds_133 (by decide) ?_
    refine aw_goto 138 dX4_holds_134 (by decide) ?_
    exact aw_zreturn (b := true) rfl rfl dX4_holds_138
def F4_holds (σ : Mem) (t0 : Nat) (x1 : Int32) (t2 : Nat) : Option Bool :=
  (ald 60 (gI σ 5 t0 2) x1).bind fun v_1 => if v_1 = (-1) then (bnd (gI σ 7 t2 0 1) fun v_10 => F4_holds_p56 σ t0 x1 v_10) else (if v_1 = (-2) then (bnd (gI σ 7 t2 0 0) fun v_9 => F4_holds_p56 σ t0 x1 v_9) else (if (F11_within v_1 0 5) = true then ((ald 6 (gI σ 7 t2 5) v_1).bind fun v_8 => F4_holds_p56 σ t0 x1 v_8) else (F4_holds_p56 σ t0 x1 0)))
set_option maxRecDepth 20000 in
theorem c4_holds {l : Launch} {D : va_G} {ad : Nat → Nat → Nat → Nat} {cid : Nat → Nat → Nat → ClassId} (σ : Mem) (t0 : Nat) (ht0 : t0 < 5) (x1 : Int32) (t2 : Nat) (ht2 : t2 < 5) : AMF (XC l D ad cid) M4_holds 1 eB [.ref (ad 5 t0 0), .int x1, .ref (ad 7 t2 0)] σ (oM σ (F4_holds σ t0 x1 t2)) := by
  refine AM.ofW (by decide +kernel) (Nat.le_of_ble_eq_true rfl) (ls := [(0, .ref (ad 5 t0 0)), (1, .int x1), (2, .ref (ad 7 t2 0))]) rfl ?_
  refine aw_entryO ?_
  unfold F4_holds
  refine aw_aload_n 0 dX4_holds_0 rfl rfl ?_
  refine aw_getf (fg_5_4 (by omega)) ci_5 (by decide) w_424 dX4_holds_1 ?_
  refine aw_iload_n 1 dX4_holds_4 rfl rfl ?_
  refine aw_iaload (ar_5_2 (by omega)) dX4_holds_5 (fun v_1 => ?_)
  refine aw_istore_n (ls' := [(0, .ref (ad 5 t0 0)), (1, .int x1), (2, .ref (ad 7 t2 0)), (3, .int v_1)]) [1, 2, 3, 0] dX4_holds_6 rfl (by decide) rfl ?_
  refine aw_iconst 0 dX4_holds_7 (by decide) ?_
  refine aw_istore (ls' := [(0, .ref (ad 5 t0 0)), (1, .int x1), (2, .ref (ad 7 t2 0)), (3, .int v_1), (4, .int 0)]) [1, 2, 3, 4, 0] dX4_holds_8 (by decide) rfl ?_
  refine aw_iload_n 3 dX4_holds_10 rfl rfl ?_
  refine aw_iconst (-1) dX4_holds_11 (by decide) ?_
  refine aw_icmp_ne 24 dX4_holds_12 (by decide) ?_ ?_
  · refine aw_iload_n 3 dX4_holds_24 rfl rfl ?_
    refine aw_bipush (-2) dX4_holds_25 (by decide) ?_
    refine aw_icmp_ne 39 dX4_holds_27 (by decide) ?_ ?_
    · refine aw_iload_n 3 dX4_holds_39 rfl rfl ?_
      refine aw_iconst 0 dX4_holds_40 (by decide) ?_
      refine aw_iconst 5 dX4_holds_41 (by decide) ?_
      refine aw_callNT_B (c11_within σ v_1 0 5) (by decide) mk_11_within w_798 (List.mem_of_getElem? (i := 13) rfl) rfl rfl (Nat.le_of_ble_eq_true rfl) dX4_holds_42 ?_
      refine aw_bif_eq 56 dX4_holds_45 (by decide) ?_ ?_
      · refine aw_ls (ls' := [(0, .ref (ad 5 t0 0)), (1, .int x1), (4, .int 0)]) [0, 1, 4] rfl ?_
        exact c4_holds_p56 σ t0 (by omega) x1 0
      · refine aw_aload_n 2 dX4_holds_48 rfl rfl ?_
        refine aw_getf (fg_7_6 (by omega)) ci_7 (by decide) w_475 dX4_holds_49 ?_
        refine aw_iload_n 3 dX4_holds_52 rfl rfl ?_
        refine aw_iaload (ar_7_5 (by omega)) dX4_holds_53 (fun v_8 => ?_)
        refine aw_istore (ls' := [(0, .ref (ad 5 t0 0)), (1, .int x1), (4, .int v_8)]) [1, 2, 0] dX4_holds_54 (by decide) rfl ?_
        exact c4_holds_p56 σ t0 (by omega) x1 v_8
    · refine aw_aload_n 2 dX4_holds_30 rfl rfl ?_
      refine aw_getf (fg_7_0 (by omega)) ci_7 (by decide) w_461 dX4_holds_31 ?_
      refine aw_bnd_int (fun v_9 => ?_)
      refine aw_istore (ls' := [(0, .ref (ad 5 t0 0)), (1, .int x1), (4, .int v_9)]) [1, 2, 0] dX4_holds_34 (by decide) rfl ?_
      refine aw_goto 56 dX4_holds_36 (by decide) ?_
      exact c4_holds_p56 σ t0 (by omega) x1 v_9
  · refine aw_aload_n 2 dX4_holds_15 rfl rfl ?_
    refine aw_getf (fg_7_1 (by omega)) ci_7 (by decide) w_464 dX4_holds_16 ?_
    refine aw_bnd_int (fun v_10 => ?_)
    refine aw_istore (ls' := [(0, .ref (ad 5 t0 0)), (1, .int x1), (4, .int v_10)]) [1, 2, 0] dX4_holds_19 (by decide) rfl ?_
    refine aw_goto 56 dX4_holds_21 (by decide) ?_
    exact c4_holds_p56 σ t0 (by omega) x1 v_10
def F4_draw (σ : Mem) (t0 : Nat) (x1 : Int32) : Option (Int32 × Mem) :=
  bnd (sI σ 4 t0 0 7 (iRem (((gI σ 4 t0 0 7) * 2851) + 11027) 65536)) fun s_1 => if x1 ≤ 0 then (some (0, s_1)) else (if x1 = 0 then none else some ((iRem ((gI s_1 4 t0 0 7) / 8) x1), s_1))
set_option maxRecDepth 20000 in
theorem c4_draw {l : Launch} {D : va_G} {ad : Nat → Nat → Nat → Nat} {cid : Nat → Nat → Nat → ClassId} (σ : Mem) (t0 : Nat) (ht0 : t0 < 2) (x1 : Int32) : AMF (XC l D ad cid) M4_draw 0 eI [.ref (ad 4 t0 0), .int x1] σ (F4_draw σ t0 x1) := by
  refine AM.ofW (by decide +kernel) (Nat.le_of_ble_eq_true rfl) (ls := [(0, .ref (ad 4 t0 0)), (1, .int x1)]) rfl ?_
  refine aw_entry ?_
  unfold F4_draw
  refine aw_aload_n 0 dX4_draw_0 rfl rfl ?_
  refine aw_aload_n 0 dX4_draw_1 rfl rfl ?_
  refine aw_getf (fg_4_7 (by omega)) ci_4 (by decide) w_687 dX4_draw_2 ?_
  refine aw_sipush 2851 dX4_draw_5 (by decide) ?_
  refine aw_imul dX4_draw_8 ?_
  refine aw_sipush 11027 dX4_draw_9 (by decide) ?_
  refine aw_iadd dX4_draw_12 ?_
  refine aw_ldc w_1396 dX4_draw_13 ?_
  refine aw_irem_c dX4_draw_15 (by decide) ?_
  refine aw_putI (fs_4_7 (by omega)) ci_4 (by decide) rfl rfl w_687 dX4_draw_16 ?_
  refine aw_bndM (fun s_1 => ?_)
  refine aw_iload_n 1 dX4_draw_19 rfl rfl ?_
  refine aw_if_le 35 dX4_draw_20 (by decide) ?_ ?_
  · refine aw_iconst 0 dX4_draw_35 (by decide) ?_
    exact aw_ireturn rfl dX4_draw_36
  · refine aw_aload_n 0 dX4_draw_23 rfl rfl ?_
    refine aw_getf (fg_4_7 (by omega)) ci_4 (by decide) w_687 dX4_draw_24 ?_
    refine aw_bipush 8 dX4_draw_27 (by decide) ?_
    refine aw_idiv_c dX4_draw_29 (by decide) ?_
    refine aw_iload_n 1 dX4_draw_30 rfl rfl ?_
    refine aw_irem dX4_draw_31 ?_
    refine aw_goto 36 dX4_draw_32 (by decide) ?_
    exact aw_ireturn rfl dX4_draw_36
def F4_drawHand (σ : Mem) (t0 : Nat) (x1 : Int32) : Option (Int32 × Mem) :=
  if x1 = 0 then (some (0, σ)) else (bd (F4_draw σ t0 ((2 * x1) + 1)) fun v_1 s_2 => some ((v_1 - x1), s_2))
set_option maxRecDepth 20000 in
theorem c4_drawHand {l : Launch} {D : va_G} {ad : Nat → Nat → Nat → Nat} {cid : Nat → Nat → Nat → ClassId} (σ : Mem) (t0 : Nat) (ht0 : t0 < 2) (x1 : Int32) : AMF (XC l D ad cid) M4_drawHand 1 eI [.ref (ad 4 t0 0), .int x1] σ (F4_drawHand σ t0 x1) := by
  refine AM.ofW (by decide +kernel) (Nat.le_of_ble_eq_true rfl) (ls := [(0, .ref (ad 4 t0 0)), (1, .int x1)]) rfl ?_
  refine aw_entry ?_
  unfold F4_drawHand
  refine aw_iload_n 1 dX4_drawHand_0 rfl rfl ?_
  refine aw_if_ne 8 dX4_drawHand_1 (by decide) ?_ ?_
  · refine aw_aload_n 0 dX4_drawHand_8 rfl rfl ?_
    refine aw_iconst 2 dX4_drawHand_9 (by decide) ?_
    refine aw_iload_n 1 dX4_drawHand_10 rfl rfl ?_
    refine aw_imul dX4_drawHand_11 ?_
    refine aw_iconst 1 dX4_drawHand_12 (by decide) ?_
    refine aw_iadd dX4_drawHand_13 ?_
    refine aw_callVW_I (c4_draw σ t0 (by omega) ((2 * x1) + 1)) (io_4 (by omega)) ci_4 (by decide) mk_4_draw w_1394 w_46 w_1392 rfl rfl (Nat.le_of_ble_eq_true rfl) dX4_drawHand_14 (fun v_1 s_2 => ?_)
    refine aw_iload_n 1 dX4_drawHand_17 rfl rfl ?_
    refine aw_isub dX4_drawHand_18 ?_
    exact aw_ireturn rfl dX4_drawHand_19
  · refine aw_iconst 0 dX4_drawHand_4 (by decide) ?_
    refine aw_goto 19 dX4_drawHand_5 (by decide) ?_
    exact aw_ireturn rfl dX4_drawHand_19
def F4_shootOnce_p210 (σ : Mem) (t0 : Nat) (t2 : Nat) (t3 : Nat) (x6 : Int32) (x7 : Int32) (q0 : Int32) : Option (Unit × Mem) :=
  bnd (sI σ 4 t0 0 3 ((gI σ 4 t0 0 3) + 1)) fun s_15 => (F6_strikeX s_15 (1 + t0) t2 q0).bind fun v_16 => (F6_strikeY s_15 (1 + t0) t2).bind fun v_17 => bd (F7_strike s_15 t3 t2 (1 + t0) (v_16 + x6) (v_17 + x7)) fun v_18 s_19 => bnd (sI s_19 4 t0 0 5 ((gI s_15 4 t0 0 5) + v_18)) fun s_20 => some ((), s_20)
set_option maxRecDepth 20000 in
theorem c4_shootOnce_p210 {l : Launch} {D : va_G} {ad : Nat → Nat → Nat → Nat} {cid : Nat → Nat → Nat → ClassId} (σ : Mem) (t0 : Nat) (ht0 : t0 < 2) (t2 : Nat) (ht2 : t2 < 5) (t3 : Nat) (ht3 : t3 < 5) (x6 : Int32) (x7 : Int32) (q0 : Int32) : AW (XC l D ad cid) M4_shootOnce 4 eU [(0, .ref (ad 4 t0 0)), (2, .ref (ad 9 t2 0)), (3, .ref (ad 7 t3 0)), (6, .int x6), (7, .int x7)] 210 [.int q0] σ ((F4_shootOnce_p210 σ t0 t2 t3 x6 x7 q0).bind some) := by
  unfold F4_shootOnce_p210
  refine aw_istore (ls' := [(0, .ref (ad 4 t0 0)), (2, .ref (ad 9 t2 0)), (3, .ref (ad 7 t3 0)), (6, .int x6), (7, .int x7), (8, .int q0)]) [1, 2, 3, 4, 5, 0] dX4_shootOnce_210 (by decide) rfl ?_
  refine aw_aload_n 0 dX4_shootOnce_212 rfl rfl ?_
  refine aw_dup dX4_shootOnce_213 rfl ?_
  refine aw_getf (fg_4_3 (by omega)) ci_4 (by decide) w_679 dX4_shootOnce_214 ?_
  refine aw_iconst 1 dX4_shootOnce_217 (by decide) ?_
  refine aw_iadd dX4_shootOnce_218 ?_
  refine aw_putI (fs_4_3 (by omega)) ci_4 (by decide) rfl rfl w_679 dX4_shootOnce_219 ?_
  refine aw_bndM (fun s_15 => ?_)
  refine aw_aload_n 0 dX4_shootOnce_222 rfl rfl ?_
  refine aw_dup dX4_shootOnce_223 rfl ?_
  refine aw_getf (fg_4_5 (by omega)) ci_4 (by decide) w_683 dX4_shootOnce_224 ?_
  refine aw_aload_n 2 dX4_shootOnce_227 rfl rfl ?_
  refine aw_aload_n 1 dX4_shootOnce_228 rfl rfl ?_
  refine aw_aload_n 0 dX4_shootOnce_229 rfl rfl ?_
  refine aw_getf (fg_4_11 (by omega)) ci_4 (by decide) w_691 dX4_shootOnce_230 ?_
  refine aw_aload_n 0 dX4_shootOnce_233 rfl rfl ?_
  refine aw_getf (fg_4_11 (by omega)) ci_4 (by decide) w_691 dX4_shootOnce_234 ?_
  refine aw_aload_n 1 dX4_shootOnce_237 rfl rfl ?_
  refine aw_iload 5 dX4_shootOnce_238 rfl ?_
  refine aw_callVO_I (c6_strikeX s_15 (1 + t0) (by omega) t2 (by omega) q0) (io_6 (by omega)) ci_6 (by decide) mk_6_strikeX w_1116 w_1117 w_1397 rfl rfl (Nat.le_of_ble_eq_true rfl) dX4_shootOnce_240 (fun v_16 => ?_)
  refine aw_iload 3 dX4_shootOnce_243 rfl ?_
  refine aw_iadd dX4_shootOnce_245 ?_
  refine aw_aload_n 0 dX4_shootOnce_246 rfl rfl ?_
  refine aw_getf (fg_4_11 (by omega)) ci_4 (by decide) w_691 dX4_shootOnce_247 ?_
  refine aw_aload_n 1 dX4_shootOnce_250 rfl rfl ?_
  refine aw_callVO_I (c6_strikeY s_15 (1 + t0) (by omega) t2 (by omega)) (io_6 (by omega)) ci_6 (by decide) mk_6_strikeY w_1120 w_1121 w_1398 rfl rfl (Nat.le_of_ble_eq_true rfl) dX4_shootOnce_251 (fun v_17 => ?_)
  refine aw_iload 4 dX4_shootOnce_254 rfl ?_
  refine aw_iadd dX4_shootOnce_256 ?_
  refine aw_callVW_I (c7_strike s_15 t3 (by omega) t2 (by omega) (1 + t0) (by omega) (v_16 + x6) (v_17 + x7)) (io_7 (by omega)) ci_7 (by decide) mk_7_strike w_1345 w_1346 w_1399 rfl rfl (Nat.le_of_ble_eq_true rfl) dX4_shootOnce_257 (fun v_18 s_19 => ?_)
  refine aw_iadd dX4_shootOnce_260 ?_
  refine aw_putI (fs_4_5 (by omega)) ci_4 (by decide) rfl rfl w_683 dX4_shootOnce_261 ?_
  refine aw_bndM (fun s_20 => ?_)
  exact aw_return rfl dX4_shootOnce_264
def F4_shootOnce_p39 (σ : Mem) (t0 : Nat) (x1 : Int32) (t2 : Nat) (t3 : Nat) (q0 : Bool) : Option (Unit × Mem) :=
  if q0 = true then ((F9_fitOf σ t2 (gI σ 6 (1 + t0) 0 1)).bind fun v_2 => if v_2 < 0 then (bnd (sI σ 4 t0 0 2 ((gI σ 4 t0 0 2) + 1)) fun s_3 => some ((), s_3)) else (if (gI σ 7 t3 0 1) < 60 then (bnd (sI σ 6 (1 + t0) 0 0 x1) fun s_4 => (ald 6 (gI s_4 9 t2 9) x1).bind fun v_5 => bnd (sI s_4 6 (1 + t0) 0 2 (iMin (gI s_4 4 t0 0 9) v_5)) fun s_6 => bnd (sI s_6 6 (1 + t0) 0 6 (gI s_6 7 t3 0 0)) fun s_7 => bnd (sI s_7 6 (1 + t0) 0 7 (gI s_7 9 t2 0 0)) fun s_8 => bd (F6_reckon s_8 (1 + t0) t2) fun _ s_9 => if (gI s_9 6 (1 + t0) 0 8) = 0 then ((F9_shakeOn s_9 t2 x1 (gI s_9 4 t0 0 8)).bind fun v_10 => bd (F4_drawHand s_9 t0 v_10) fun v_11 s_12 => bd (F4_drawHand s_12 t0 v_10) fun v_13 s_14 => if (gI s_14 6 (1 + t0) 0 13) ≤ 0 then (F4_shootOnce_p210 s_14 t0 t2 t3 v_11 v_13 1) else (bd (F4_draw s_14 t0 2) fun v_21 s_22 => if v_21 = 1 then (F4_shootOnce_p210 s_22 t0 t2 t3 v_11 v_13 (-1)) else (F4_shootOnce_p210 s_22 t0 t2 t3 v_11 v_13 1))) else (bnd (sI s_9 4 t0 0 4 ((gI s_9 4 t0 0 4) + 1)) fun s_23 => some ((), s_23))) else (bnd (sI σ 4 t0 0 2 ((gI σ 4 t0 0 2) + 1)) fun s_24 => some ((), s_24)))) else (bnd (sI σ 4 t0 0 2 ((gI σ 4 t0 0 2) + 1)) fun s_1 => some ((), s_1))
set_option maxRecDepth 20000 in
theorem c4_shootOnce_p39 {l : Launch} {D : va_G} {ad : Nat → Nat → Nat → Nat} {cid : Nat → Nat → Nat → ClassId} (σ : Mem) (t0 : Nat) (ht0 : t0 < 2) (x1 : Int32) (t2 : Nat) (ht2 : t2 < 5) (t3 : Nat) (ht3 : t3 < 5) (q0 : Bool) : AW (XC l D ad cid) M4_shootOnce 4 eU [(0, .ref (ad 4 t0 0)), (1, .int x1), (2, .ref (ad 9 t2 0)), (3, .ref (ad 7 t3 0))] 39 [.int (b2i q0)] σ ((F4_shootOnce_p39 σ t0 x1 t2 t3 q0).bind some) := by
  unfold F4_shootOnce_p39
  refine aw_istore (ls' := [(0, .ref (ad 4 t0 0)), (1, .int x1), (2, .ref (ad 9 t2 0)), (3, .ref (ad 7 t3 0)), (4, .int (b2i q0))]) [1, 2, 3, 4, 0] dX4_shootOnce_39 (by decide) rfl ?_
  refine aw_iload 4 dX4_shootOnce_41 rfl ?_
  refine aw_bif_eq 69 dX4_shootOnce_43 (by decide) ?_ ?_
  · refine aw_aload_n 0 dX4_shootOnce_69 rfl rfl ?_
    refine aw_dup dX4_shootOnce_70 rfl ?_
    refine aw_getf (fg_4_2 (by omega)) ci_4 (by decide) w_677 dX4_shootOnce_71 ?_
    refine aw_iconst 1 dX4_shootOnce_74 (by decide) ?_
    refine aw_iadd dX4_shootOnce_75 ?_
    refine aw_putI (fs_4_2 (by omega)) ci_4 (by decide) rfl rfl w_677 dX4_shootOnce_76 ?_
    refine aw_bndM (fun s_1 => ?_)
    exact aw_return rfl dX4_shootOnce_79
  · refine aw_aload_n 2 dX4_shootOnce_46 rfl rfl ?_
    refine aw_aload_n 0 dX4_shootOnce_47 rfl rfl ?_
    refine aw_getf (fg_4_11 (by omega)) ci_4 (by decide) w_691 dX4_shootOnce_48 ?_
    refine aw_getf (fg_6_1 (by omega)) ci_6 (by decide) w_543 dX4_shootOnce_51 ?_
    refine aw_callVO_I (c9_fitOf σ t2 (by omega) (gI σ 6 (1 + t0) 0 1)) (io_9 (by omega)) ci_9 (by decide) mk_9_fitOf w_1050 w_1051 w_1384 rfl rfl (Nat.le_of_ble_eq_true rfl) dX4_shootOnce_54 (fun v_2 => ?_)
    refine aw_if_lt 69 dX4_shootOnce_57 (by decide) ?_ ?_
    · refine aw_aload_n 0 dX4_shootOnce_69 rfl rfl ?_
      refine aw_dup dX4_shootOnce_70 rfl ?_
      refine aw_getf (fg_4_2 (by omega)) ci_4 (by decide) w_677 dX4_shootOnce_71 ?_
      refine aw_iconst 1 dX4_shootOnce_74 (by decide) ?_
      refine aw_iadd dX4_shootOnce_75 ?_
      refine aw_putI (fs_4_2 (by omega)) ci_4 (by decide) rfl rfl w_677 dX4_shootOnce_76 ?_
      refine aw_bndM (fun s_3 => ?_)
      exact aw_return rfl dX4_shootOnce_79
    · refine aw_aload_n 3 dX4_shootOnce_60 rfl rfl ?_
      refine aw_getf (fg_7_1 (by omega)) ci_7 (by decide) w_464 dX4_shootOnce_61 ?_
      refine aw_bipush 60 dX4_shootOnce_64 (by decide) ?_
      refine aw_icmp_lt 80 dX4_shootOnce_66 (by decide) ?_ ?_
      · refine aw_aload_n 0 dX4_shootOnce_80 rfl rfl ?_
        refine aw_getf (fg_4_11 (by omega)) ci_4 (by decide) w_691 dX4_shootOnce_81 ?_
        refine aw_iload_n 1 dX4_shootOnce_84 rfl rfl ?_
        refine aw_putI (fs_6_0 (by omega)) ci_6 (by decide) rfl rfl w_540 dX4_shootOnce_85 ?_
        refine aw_bndM (fun s_4 => ?_)
        refine aw_aload_n 0 dX4_shootOnce_88 rfl rfl ?_
        refine aw_getf (fg_4_11 (by omega)) ci_4 (by decide) w_691 dX4_shootOnce_89 ?_
        refine aw_aload_n 0 dX4_shootOnce_92 rfl rfl ?_
        refine aw_getf (fg_4_9 (by omega)) ci_4 (by decide) w_689 dX4_shootOnce_93 ?_
        refine aw_aload_n 2 dX4_shootOnce_96 rfl rfl ?_
        refine aw_getf (fg_9_15 (by omega)) ci_9 (by decide) w_356 dX4_shootOnce_97 ?_
        refine aw_iload_n 1 dX4_shootOnce_100 rfl rfl ?_
        refine aw_iaload (ar_9_9 (by omega)) dX4_shootOnce_101 (fun v_5 => ?_)
        refine aw_min w_1385 w_864 w_159 w_865 (Nat.le_of_ble_eq_true rfl) dX4_shootOnce_102 ?_
        refine aw_putI (fs_6_2 (by omega)) ci_6 (by decide) rfl rfl w_547 dX4_shootOnce_105 ?_
        refine aw_bndM (fun s_6 => ?_)
        refine aw_aload_n 0 dX4_shootOnce_108 rfl rfl ?_
        refine aw_getf (fg_4_11 (by omega)) ci_4 (by decide) w_691 dX4_shootOnce_109 ?_
        refine aw_aload_n 3 dX4_shootOnce_112 rfl rfl ?_
        refine aw_getf (fg_7_0 (by omega)) ci_7 (by decide) w_461 dX4_shootOnce_113 ?_
        refine aw_putI (fs_6_6 (by omega)) ci_6 (by decide) rfl rfl w_559 dX4_shootOnce_116 ?_
        refine aw_bndM (fun s_7 => ?_)
        refine aw_aload_n 0 dX4_shootOnce_119 rfl rfl ?_
        refine aw_getf (fg_4_11 (by omega)) ci_4 (by decide) w_691 dX4_shootOnce_120 ?_
        refine aw_aload_n 2 dX4_shootOnce_123 rfl rfl ?_
        refine aw_getf (fg_9_0 (by omega)) ci_9 (by decide) w_320 dX4_shootOnce_124 ?_
        refine aw_putI (fs_6_7 (by omega)) ci_6 (by decide) rfl rfl w_562 dX4_shootOnce_127 ?_
        refine aw_bndM (fun s_8 => ?_)
        refine aw_aload_n 0 dX4_shootOnce_130 rfl rfl ?_
        refine aw_getf (fg_4_11 (by omega)) ci_4 (by decide) w_691 dX4_shootOnce_131 ?_
        refine aw_aload_n 2 dX4_shootOnce_134 rfl rfl ?_
        refine aw_callVW_U (c6_reckon s_8 (1 + t0) (by omega) t2 (by omega)) (io_6 (by omega)) ci_6 (by decide) mk_6_reckon w_1083 w_1084 w_1386 rfl rfl (Nat.le_of_ble_eq_true rfl) dX4_shootOnce_135 (fun _ s_9 => ?_)
        refine aw_aload_n 0 dX4_shootOnce_138 rfl rfl ?_
        refine aw_getf (fg_4_11 (by omega)) ci_4 (by decide) w_691 dX4_shootOnce_139 ?_
        refine aw_getf (fg_6_8 (by omega)) ci_6 (by decide) w_567 dX4_shootOnce_142 ?_
        refine aw_if_eq 159 dX4_shootOnce_145 (by decide) ?_ ?_
        · refine aw_aload_n 2 dX4_shootOnce_159 rfl rfl ?_
          refine aw_iload_n 1 dX4_shootOnce_160 rfl rfl ?_
          refine aw_aload_n 0 dX4_shootOnce_161 rfl rfl ?_
          refine aw_getf (fg_4_8 (by omega)) ci_4 (by decide) w_688 dX4_shootOnce_162 ?_
          refine aw_callVO_I (c9_shakeOn s_9 t2 (by omega) x1 (gI s_9 4 t0 0 8)) (io_9 (by omega)) ci_9 (by decide) mk_9_shakeOn w_1145 w_1146 w_1387 rfl rfl (Nat.le_of_ble_eq_true rfl) dX4_shootOnce_165 (fun v_10 => ?_)
          refine aw_istore (ls' := [(0, .ref (ad 4 t0 0)), (2, .ref (ad 9 t2 0)), (3, .ref (ad 7 t3 0)), (5, .int v_10)]) [1, 3, 4, 0] dX4_shootOnce_168 (by decide) rfl ?_
          refine aw_aload_n 0 dX4_shootOnce_170 rfl rfl ?_
          refine aw_iload 3 dX4_shootOnce_171 rfl ?_
          refine aw_callVW_I (c4_drawHand s_9 t0 (by omega) v_10) (io_4 (by omega)) ci_4 (by decide) mk_4_drawHand w_1390 w_45 w_1388 rfl rfl (Nat.le_of_ble_eq_true rfl) dX4_shootOnce_173 (fun v_11 s_12 => ?_)
          refine aw_istore (ls' := [(0, .ref (ad 4 t0 0)), (2, .ref (ad 9 t2 0)), (3, .ref (ad 7 t3 0)), (5, .int v_10), (6, .int v_11)]) [1, 2, 3, 4, 0] dX4_shootOnce_176 (by decide) rfl ?_
          refine aw_aload_n 0 dX4_shootOnce_178 rfl rfl ?_
          refine aw_iload 3 dX4_shootOnce_179 rfl ?_
          refine aw_callVW_I (c4_drawHand s_12 t0 (by omega) v_10) (io_4 (by omega)) ci_4 (by decide) mk_4_drawHand w_1390 w_45 w_1388 rfl rfl (Nat.le_of_ble_eq_true rfl) dX4_shootOnce_181 (fun v_13 s_14 => ?_)
          refine aw_istore (ls' := [(0, .ref (ad 4 t0 0)), (2, .ref (ad 9 t2 0)), (3, .ref (ad 7 t3 0)), (6, .int v_11), (7, .int v_13)]) [1, 2, 3, 5, 0] dX4_shootOnce_184 (by decide) rfl ?_
          refine aw_aload_n 0 dX4_shootOnce_186 rfl rfl ?_
          refine aw_getf (fg_4_11 (by omega)) ci_4 (by decide) w_691 dX4_shootOnce_187 ?_
          refine aw_getf (fg_6_13 (by omega)) ci_6 (by decide) w_580 dX4_shootOnce_190 ?_
          refine aw_if_le 209 dX4_shootOnce_193 (by decide) ?_ ?_
          · refine aw_iconst 1 dX4_shootOnce_209 (by decide) ?_
            exact c4_shootOnce_p210 s_14 t0 (by omega) t2 (by omega) t3 (by omega) v_11 v_13 1
          · refine aw_aload_n 0 dX4_shootOnce_196 rfl rfl ?_
            refine aw_iconst 2 dX4_shootOnce_197 (by decide) ?_
            refine aw_callVW_I (c4_draw s_14 t0 (by omega) 2) (io_4 (by omega)) ci_4 (by decide) mk_4_draw w_1394 w_46 w_1392 rfl rfl (Nat.le_of_ble_eq_true rfl) dX4_shootOnce_198 (fun v_21 s_22 => ?_)
            refine aw_iconst 1 dX4_shootOnce_201 (by decide) ?_
            refine aw_icmp_ne 209 dX4_shootOnce_202 (by decide) ?_ ?_
            · refine aw_iconst 1 dX4_shootOnce_209 (by decide) ?_
              exact c4_shootOnce_p210 s_22 t0 (by omega) t2 (by omega) t3 (by omega) v_11 v_13 1
            · refine aw_iconst (-1) dX4_shootOnce_205 (by decide) ?_
              refine aw_goto 210 dX4_shootOnce_206 (by decide) ?_
              exact c4_shootOnce_p210 s_22 t0 (by omega) t2 (by omega) t3 (by omega) v_11 v_13 (-1)
        · refine aw_aload_n 0 dX4_shootOnce_148 rfl rfl ?_
          refine aw_dup dX4_shootOnce_149 rfl ?_
          refine aw_getf (fg_4_4 (by omega)) ci_4 (by decide) w_681 dX4_shootOnce_150 ?_
          refine aw_iconst 1 dX4_shootOnce_153 (by decide) ?_
          refine aw_iadd dX4_shootOnce_154 ?_
          refine aw_putI (fs_4_4 (by omega)) ci_4 (by decide) rfl rfl w_681 dX4_shootOnce_155 ?_
          refine aw_bndM (fun s_23 => ?_)
          exact aw_return rfl dX4_shootOnce_158
      · refine aw_aload_n 0 dX4_shootOnce_69 rfl rfl ?_
        refine aw_dup dX4_shootOnce_70 rfl ?_
        refine aw_getf (fg_4_2 (by omega)) ci_4 (by decide) w_677 dX4_shootOnce_71 ?_
        refine aw_iconst 1 dX4_shootOnce_74 (by decide) ?_
        refine aw_iadd dX4_shootOnce_75 ?_
        refine aw_putI (fs_4_2 (by omega)) ci_4 (by decide) rfl rfl w_677 dX4_shootOnce_76 ?_
        refine aw_bndM (fun s_24 => ?_)
        exact aw_return rfl dX4_shootOnce_79
def F4_shootOnce (σ : Mem) (t0 : Nat) (x1 : Int32) (t2 : Nat) (t3 : Nat) : Option (Unit × Mem) :=
  if (F11_within x1 0 ((gI σ 9 t2 0 13) - 1)) = true then (if (F11_within (gI σ 6 (1 + t0) 0 1) 0 ((gI σ 9 t2 0 7) - 1)) = true then (F4_shootOnce_p39 σ t0 x1 t2 t3 true) else (F4_shootOnce_p39 σ t0 x1 t2 t3 false)) else (F4_shootOnce_p39 σ t0 x1 t2 t3 false)
set_option maxRecDepth 20000 in
theorem c4_shootOnce {l : Launch} {D : va_G} {ad : Nat → Nat → Nat → Nat} {cid : Nat → Nat → Nat → ClassId} (σ : Mem) (t0 : Nat) (ht0 : t0 < 2) (x1 : Int32) (t2 : Nat) (ht2 : t2 < 5) (t3 : Nat) (ht3 : t3 < 5) : AMF (XC l D ad cid) M4_shootOnce 4 eU [.ref (ad 4 t0 0), .int x1, .ref (ad 9 t2 0), .ref (ad 7 t3 0)] σ (F4_shootOnce σ t0 x1 t2 t3) := by
  refine AM.ofW (by decide +kernel) (Nat.le_of_ble_eq_true rfl) (ls := [(0, .ref (ad 4 t0 0)), (1, .int x1), (2, .ref (ad 9 t2 0)), (3, .ref (ad 7 t3 0))]) rfl ?_
  refine aw_entry ?_
  unfold F4_shootOnce
  refine aw_iload_n 1 dX4_shootOnce_0 rfl rfl ?_
  refine aw_iconst 0 dX4_shootOnce_1 (by decide) ?_
  refine aw_aload_n 2 dX4_shootOnce_2 rfl rfl ?_
  refine aw_getf (fg_9_13 (by omega)) ci_9 (by decide) w_352 dX4_shootOnce_3 ?_
  refine aw_iconst 1 dX4_shootOnce_6 (by decide) ?_
  refine aw_isub dX4_shootOnce_7 ?_
  refine aw_callNT_B (c11_within σ x1 0 ((gI σ 9 t2 0 13) - 1)) (by decide) mk_11_within w_798 (List.mem_of_getElem? (i := 13) rfl) rfl rfl (Nat.le_of_ble_eq_true rfl) dX4_shootOnce_8 ?_
  refine aw_bif_eq 38 dX4_shootOnce_11 (by decide) ?_ ?_
  · refine aw_iconst 0 dX4_shootOnce_38 (by decide) ?_
    exact c4_shootOnce_p39 σ t0 (by omega) x1 t2 (by omega) t3 (by omega) false
  · refine aw_aload_n 0 dX4_shootOnce_14 rfl rfl ?_
    refine aw_getf (fg_4_11 (by omega)) ci_4 (by decide) w_691 dX4_shootOnce_15 ?_
    refine aw_getf (fg_6_1 (by omega)) ci_6 (by decide) w_543 dX4_shootOnce_18 ?_
    refine aw_iconst 0 dX4_shootOnce_21 (by decide) ?_
    refine aw_aload_n 2 dX4_shootOnce_22 rfl rfl ?_
    refine aw_getf (fg_9_7 (by omega)) ci_9 (by decide) w_337 dX4_shootOnce_23 ?_
    refine aw_iconst 1 dX4_shootOnce_26 (by decide) ?_
    refine aw_isub dX4_shootOnce_27 ?_
    refine aw_callNT_B (c11_within σ (gI σ 6 (1 + t0) 0 1) 0 ((gI σ 9 t2 0 7) - 1)) (by decide) mk_11_within w_798 (List.mem_of_getElem? (i := 13) rfl) rfl rfl (Nat.le_of_ble_eq_true rfl) dX4_shootOnce_28 ?_
    refine aw_bif_eq 38 dX4_shootOnce_31 (by decide) ?_ ?_
    · refine aw_iconst 0 dX4_shootOnce_38 (by decide) ?_
      exact c4_shootOnce_p39 σ t0 (by omega) x1 t2 (by omega) t3 (by omega) false
    · refine aw_iconst 1 dX4_shootOnce_34 (by decide) ?_
      refine aw_goto 39 dX4_shootOnce_35 (by decide) ?_
      exact c4_shootOnce_p39 σ t0 (by omega) x1 t2 (by omega) t3 (by omega) true
def F4_loadNext (σ : Mem) (t0 : Nat) (t1 : Nat) : Option (Unit × Mem) :=
  if (gI σ 9 t1 0 7) = 0 then (bnd (sI σ 4 t0 0 2 ((gI σ 4 t0 0 2) + 1)) fun s_3 => some ((), s_3)) else (if (gI σ 9 t1 0 7) ≤ ((gI σ 6 (1 + t0) 0 1) + 1) then (bnd (sI σ 6 (1 + t0) 0 1 0) fun s_1 => some ((), s_1)) else (bnd (sI σ 6 (1 + t0) 0 1 ((gI σ 6 (1 + t0) 0 1) + 1)) fun s_2 => some ((), s_2)))
set_option maxRecDepth 20000 in
theorem c4_loadNext {l : Launch} {D : va_G} {ad : Nat → Nat → Nat → Nat} {cid : Nat → Nat → Nat → ClassId} (σ : Mem) (t0 : Nat) (ht0 : t0 < 2) (t1 : Nat) (ht1 : t1 < 5) : AMF (XC l D ad cid) M4_loadNext 0 eU [.ref (ad 4 t0 0), .ref (ad 9 t1 0)] σ (F4_loadNext σ t0 t1) := by
  refine AM.ofW (by decide +kernel) (Nat.le_of_ble_eq_true rfl) (ls := [(0, .ref (ad 4 t0 0)), (1, .ref (ad 9 t1 0))]) rfl ?_
  refine aw_entry ?_
  unfold F4_loadNext
  refine aw_aload_n 1 dX4_loadNext_0 rfl rfl ?_
  refine aw_getf (fg_9_7 (by omega)) ci_9 (by decide) w_337 dX4_loadNext_1 ?_
  refine aw_if_ne 18 dX4_loadNext_4 (by decide) ?_ ?_
  · refine aw_aload_n 0 dX4_loadNext_18 rfl rfl ?_
    refine aw_getf (fg_4_11 (by omega)) ci_4 (by decide) w_691 dX4_loadNext_19 ?_
    refine aw_aload_n 0 dX4_loadNext_22 rfl rfl ?_
    refine aw_getf (fg_4_11 (by omega)) ci_4 (by decide) w_691 dX4_loadNext_23 ?_
    refine aw_getf (fg_6_1 (by omega)) ci_6 (by decide) w_543 dX4_loadNext_26 ?_
    refine aw_iconst 1 dX4_loadNext_29 (by decide) ?_
    refine aw_iadd dX4_loadNext_30 ?_
    refine aw_aload_n 1 dX4_loadNext_31 rfl rfl ?_
    refine aw_getf (fg_9_7 (by omega)) ci_9 (by decide) w_337 dX4_loadNext_32 ?_
    refine aw_icmp_ge 50 dX4_loadNext_35 (by decide) ?_ ?_
    · refine aw_iconst 0 dX4_loadNext_50 (by decide) ?_
      refine aw_putI (fs_6_1 (by omega)) ci_6 (by decide) rfl rfl w_543 dX4_loadNext_51 ?_
      refine aw_bndM (fun s_1 => ?_)
      exact aw_return rfl dX4_loadNext_54
    · refine aw_aload_n 0 dX4_loadNext_38 rfl rfl ?_
      refine aw_getf (fg_4_11 (by omega)) ci_4 (by decide) w_691 dX4_loadNext_39 ?_
      refine aw_getf (fg_6_1 (by omega)) ci_6 (by decide) w_543 dX4_loadNext_42 ?_
      refine aw_iconst 1 dX4_loadNext_45 (by decide) ?_
      refine aw_iadd dX4_loadNext_46 ?_
      refine aw_goto 51 dX4_loadNext_47 (by decide) ?_
      refine aw_putI (fs_6_1 (by omega)) ci_6 (by decide) rfl rfl w_543 dX4_loadNext_51 ?_
      refine aw_bndM (fun s_2 => ?_)
      exact aw_return rfl dX4_loadNext_54
  · refine aw_aload_n 0 dX4_loadNext_7 rfl rfl ?_
    refine aw_dup dX4_loadNext_8 rfl ?_
    refine aw_getf (fg_4_2 (by omega)) ci_4 (by decide) w_677 dX4_loadNext_9 ?_
    refine aw_iconst 1 dX4_loadNext_12 (by decide) ?_
    refine aw_iadd dX4_loadNext_13 ?_
    refine aw_putI (fs_4_2 (by omega)) ci_4 (by decide) rfl rfl w_677 dX4_loadNext_14 ?_
    refine aw_bndM (fun s_3 => ?_)
    exact aw_return rfl dX4_loadNext_17
def F4_doStep (σ : Mem) (t0 : Nat) (t1 : Nat) (x2 : Int32) (t3 : Nat) (t4 : Nat) : Option (Unit × Mem) :=
  (ald 60 (gI σ 5 t1 2) x2).bind fun v_1 => (ald 60 (gI σ 5 t1 1) x2).bind fun v_2 => if v_2 = 13 then (bnd (sI σ 4 t0 0 9 v_1) fun s_4 => some ((), s_4)) else if v_2 = 14 then (some ((), σ)) else if v_2 = 15 then (some ((), σ)) else if v_2 = 16 then (some ((), σ)) else if v_2 = 17 then (bnd (sI σ 6 (1 + t0) 0 1 v_1) fun s_9 => some ((), s_9)) else if v_2 = 18 then (bnd (sI σ 6 (1 + t0) 0 4 v_1) fun s_11 => (ald 60 (gI s_11 5 t1 3) x2).bind fun v_12 => bnd (sI s_11 6 (1 + t0) 0 5 v_12) fun s_13 => some ((), s_13)) else if v_2 = 19 then (bnd (sI σ 4 t0 0 8 v_1) fun s_15 => some ((), s_15)) else if v_2 = 20 then (bd (F4_shootOnce σ t0 v_1 t3 t4) fun _ s_17 => some ((), s_17)) else if v_2 = 21 then (bnd (sI σ 7 t4 0 0 0) fun s_19 => some ((), s_19)) else if v_2 = 22 then (bd (F4_loadNext σ t0 t3) fun _ s_21 => some ((), s_21)) else if v_2 = 23 then (some ((), σ)) else if v_2 = 24 then (some ((), σ)) else if v_2 = 25 then (some ((), σ)) else if v_2 = 26 then (some ((), σ)) else if v_2 = 27 then (chk 60 x2 <| bnd (sI σ 4 t0 1 (Int32.toNatClampNeg x2) v_1) fun s_27 => some ((), s_27)) else (some ((), σ))
set_option maxRecDepth 20000 in
theorem c4_doStep {l : Launch} {D : va_G} {ad : Nat → Nat → Nat → Nat} {cid : Nat → Nat → Nat → ClassId} (σ : Mem) (t0 : Nat) (ht0 : t0 < 2) (t1 : Nat) (ht1 : t1 < 5) (x2 : Int32) (t3 : Nat) (ht3 : t3 < 5) (t4 : Nat) (ht4 : t4 < 5) : AMF (XC l D ad cid) M4_doStep 5 eU [.ref (ad 4 t0 0), .ref (ad 5 t1 0), .int x2, .ref (ad 9 t3 0), .ref (ad 7 t4 0)] σ (F4_doStep σ t0 t1 x2 t3 t4) := by
  refine AM.ofW (by decide +kernel) (Nat.le_of_ble_eq_true rfl) (ls := [(0, .ref (ad 4 t0 0)), (1, .ref (ad 5 t1 0)), (2, .int x2), (3, .ref (ad 9 t3 0)), (4, .ref (ad 7 t4 0))]) rfl ?_
  refine aw_entry ?_
  unfold F4_doStep
  refine aw_aload_n 1 dX4_doStep_0 rfl rfl ?_
  refine aw_getf (fg_5_4 (by omega)) ci_5 (by decide) w_424 dX4_doStep_1 ?_
  refine aw_iload_n 2 dX4_doStep_4 rfl rfl ?_
  refine aw_iaload (ar_5_2 (by omega)) dX4_doStep_5 (fun v_1 => ?_)
  refine aw_istore (ls' := [(0, .ref (ad 4 t0 0)), (1, .ref (ad 5 t1 0)), (2, .int x2), (3, .ref (ad 9 t3 0)), (4, .ref (ad 7 t4 0)), (5, .int v_1)]) [1, 2, 3, 4, 5, 0] dX4_doStep_6 (by decide) rfl ?_
  refine aw_aload_n 1 dX4_doStep_8 rfl rfl ?_
  refine aw_getf (fg_5_3 (by omega)) ci_5 (by decide) w_422 dX4_doStep_9 ?_
  refine aw_iload_n 2 dX4_doStep_12 rfl rfl ?_
  refine aw_iaload (ar_5_1 (by omega)) dX4_doStep_13 (fun v_2 => ?_)
  refine aw_case (c := 13) (fun h_3 => ?_) (fun h_3 => ?_)
  · refine aw_tabIn 125 h_3 dX4_doStep_14 (by decide) (by decide) rfl (by decide) ?_
    refine aw_aload_n 0 dX4_doStep_125 rfl rfl ?_
    refine aw_iload 5 dX4_doStep_126 rfl ?_
    refine aw_putI (fs_4_9 (by omega)) ci_4 (by decide) rfl rfl w_689 dX4_doStep_128 ?_
    refine aw_bndM (fun s_4 => ?_)
    refine aw_goto 183 dX4_doStep_131 (by decide) ?_
    exact aw_return rfl dX4_doStep_183
  refine aw_case (c := 14) (fun h_5 => ?_) (fun h_5 => ?_)
  · refine aw_tabIn 183 h_5 dX4_doStep_14 (by decide) (by decide) rfl (by decide) ?_
    exact aw_return rfl dX4_doStep_183
  refine aw_case (c := 15) (fun h_6 => ?_) (fun h_6 => ?_)
  · refine aw_tabIn 183 h_6 dX4_doStep_14 (by decide) (by decide) rfl (by decide) ?_
    exact aw_return rfl dX4_doStep_183
  refine aw_case (c := 16) (fun h_7 => ?_) (fun h_7 => ?_)
  · refine aw_tabIn 183 h_7 dX4_doStep_14 (by decide) (by decide) rfl (by decide) ?_
    exact aw_return rfl dX4_doStep_183
  refine aw_case (c := 17) (fun h_8 => ?_) (fun h_8 => ?_)
  · refine aw_tabIn 88 h_8 dX4_doStep_14 (by decide) (by decide) rfl (by decide) ?_
    refine aw_aload_n 0 dX4_doStep_88 rfl rfl ?_
    refine aw_getf (fg_4_11 (by omega)) ci_4 (by decide) w_691 dX4_doStep_89 ?_
    refine aw_iload 5 dX4_doStep_92 rfl ?_
    refine aw_putI (fs_6_1 (by omega)) ci_6 (by decide) rfl rfl w_543 dX4_doStep_94 ?_
    refine aw_bndM (fun s_9 => ?_)
    refine aw_goto 183 dX4_doStep_97 (by decide) ?_
    exact aw_return rfl dX4_doStep_183
  refine aw_case (c := 18) (fun h_10 => ?_) (fun h_10 => ?_)
  · refine aw_tabIn 100 h_10 dX4_doStep_14 (by decide) (by decide) rfl (by decide) ?_
    refine aw_aload_n 0 dX4_doStep_100 rfl rfl ?_
    refine aw_getf (fg_4_11 (by omega)) ci_4 (by decide) w_691 dX4_doStep_101 ?_
    refine aw_iload 5 dX4_doStep_104 rfl ?_
    refine aw_putI (fs_6_4 (by omega)) ci_6 (by decide) rfl rfl w_552 dX4_doStep_106 ?_
    refine aw_bndM (fun s_11 => ?_)
    refine aw_aload_n 0 dX4_doStep_109 rfl rfl ?_
    refine aw_getf (fg_4_11 (by omega)) ci_4 (by decide) w_691 dX4_doStep_110 ?_
    refine aw_aload_n 1 dX4_doStep_113 rfl rfl ?_
    refine aw_getf (fg_5_5 (by omega)) ci_5 (by decide) w_426 dX4_doStep_114 ?_
    refine aw_iload_n 2 dX4_doStep_117 rfl rfl ?_
    refine aw_iaload (ar_5_3 (by omega)) dX4_doStep_118 (fun v_12 => ?_)
    refine aw_putI (fs_6_5 (by omega)) ci_6 (by decide) rfl rfl w_555 dX4_doStep_119 ?_
    refine aw_bndM (fun s_13 => ?_)
    refine aw_goto 183 dX4_doStep_122 (by decide) ?_
    exact aw_return rfl dX4_doStep_183
  refine aw_case (c := 19) (fun h_14 => ?_) (fun h_14 => ?_)
  · refine aw_tabIn 134 h_14 dX4_doStep_14 (by decide) (by decide) rfl (by decide) ?_
    refine aw_aload_n 0 dX4_doStep_134 rfl rfl ?_
    refine aw_iload 5 dX4_doStep_135 rfl ?_
    refine aw_putI (fs_4_8 (by omega)) ci_4 (by decide) rfl rfl w_688 dX4_doStep_137 ?_
    refine aw_bndM (fun s_15 => ?_)
    refine aw_goto 183 dX4_doStep_140 (by decide) ?_
    exact aw_return rfl dX4_doStep_183
  refine aw_case (c := 20) (fun h_16 => ?_) (fun h_16 => ?_)
  · refine aw_tabIn 143 h_16 dX4_doStep_14 (by decide) (by decide) rfl (by decide) ?_
    refine aw_aload_n 0 dX4_doStep_143 rfl rfl ?_
    refine aw_iload 5 dX4_doStep_144 rfl ?_
    refine aw_aload_n 3 dX4_doStep_146 rfl rfl ?_
    refine aw_aload 4 dX4_doStep_147 rfl ?_
    refine aw_callVW_U (c4_shootOnce σ t0 (by omega) v_1 t3 (by omega) t4 (by omega)) (io_4 (by omega)) ci_4 (by decide) mk_4_shootOnce w_1382 w_44 w_1380 rfl rfl (Nat.le_of_ble_eq_true rfl) dX4_doStep_149 (fun _ s_17 => ?_)
    refine aw_goto 183 dX4_doStep_152 (by decide) ?_
    exact aw_return rfl dX4_doStep_183
  refine aw_case (c := 21) (fun h_18 => ?_) (fun h_18 => ?_)
  · refine aw_tabIn 155 h_18 dX4_doStep_14 (by decide) (by decide) rfl (by decide) ?_
    refine aw_aload 4 dX4_doStep_155 rfl ?_
    refine aw_iconst 0 dX4_doStep_157 (by decide) ?_
    refine aw_putI (fs_7_0 (by omega)) ci_7 (by decide) rfl rfl w_461 dX4_doStep_158 ?_
    refine aw_bndM (fun s_19 => ?_)
    refine aw_goto 183 dX4_doStep_161 (by decide) ?_
    exact aw_return rfl dX4_doStep_183
  refine aw_case (c := 22) (fun h_20 => ?_) (fun h_20 => ?_)
  · refine aw_tabIn 164 h_20 dX4_doStep_14 (by decide) (by decide) rfl (by decide) ?_
    refine aw_aload_n 0 dX4_doStep_164 rfl rfl ?_
    refine aw_aload_n 3 dX4_doStep_165 rfl rfl ?_
    refine aw_callVW_U (c4_loadNext σ t0 (by omega) t3 (by omega)) (io_4 (by omega)) ci_4 (by decide) mk_4_loadNext w_1402 w_47 w_1400 rfl rfl (Nat.le_of_ble_eq_true rfl) dX4_doStep_166 (fun _ s_21 => ?_)
    refine aw_goto 183 dX4_doStep_169 (by decide) ?_
    exact aw_return rfl dX4_doStep_183
  refine aw_case (c := 23) (fun h_22 => ?_) (fun h_22 => ?_)
  · refine aw_tabIn 183 h_22 dX4_doStep_14 (by decide) (by decide) rfl (by decide) ?_
    exact aw_return rfl dX4_doStep_183
  refine aw_case (c := 24) (fun h_23 => ?_) (fun h_23 => ?_)
  · refine aw_tabIn 183 h_23 dX4_doStep_14 (by decide) (by decide) rfl (by decide) ?_
    exact aw_return rfl dX4_doStep_183
  refine aw_case (c := 25) (fun h_24 => ?_) (fun h_24 => ?_)
  · refine aw_tabIn 183 h_24 dX4_doStep_14 (by decide) (by decide) rfl (by decide) ?_
    exact aw_return rfl dX4_doStep_183
  refine aw_case (c := 26) (fun h_25 => ?_) (fun h_25 => ?_)
  · refine aw_tabIn 183 h_25 dX4_doStep_14 (by decide) (by decide) rfl (by decide) ?_
    exact aw_return rfl dX4_doStep_183
  refine aw_case (c := 27) (fun h_26 => ?_) (fun h_26 => ?_)
  · refine aw_tabIn 172 h_26 dX4_doStep_14 (by decide) (by decide) rfl (by decide) ?_
    refine aw_aload_n 0 dX4_doStep_172 rfl rfl ?_
    refine aw_getf (fg_4_10 (by omega)) ci_4 (by decide) w_690 dX4_doStep_173 ?_
    refine aw_iload_n 2 dX4_doStep_176 rfl rfl ?_
    refine aw_iload 5 dX4_doStep_177 rfl ?_
    refine aw_iastore (ar_4_1 (by omega)) dX4_doStep_179 ?_
    refine aw_bndM (fun s_27 => ?_)
    refine aw_goto 183 dX4_doStep_180 (by decide) ?_
    exact aw_return rfl dX4_doStep_183
  refine aw_tabOut 183 dX4_doStep_14 (by have eh_3 : v_2.toInt ≠ 13 := ne_toInt h_3; have eh_5 : v_2.toInt ≠ 14 := ne_toInt h_5; have eh_6 : v_2.toInt ≠ 15 := ne_toInt h_6; have eh_7 : v_2.toInt ≠ 16 := ne_toInt h_7; have eh_8 : v_2.toInt ≠ 17 := ne_toInt h_8; have eh_10 : v_2.toInt ≠ 18 := ne_toInt h_10; have eh_14 : v_2.toInt ≠ 19 := ne_toInt h_14; have eh_16 : v_2.toInt ≠ 20 := ne_toInt h_16; have eh_18 : v_2.toInt ≠ 21 := ne_toInt h_18; have eh_20 : v_2.toInt ≠ 22 := ne_toInt h_20; have eh_22 : v_2.toInt ≠ 23 := ne_toInt h_22; have eh_23 : v_2.toInt ≠ 24 := ne_toInt h_23; have eh_24 : v_2.toInt ≠ 25 := ne_toInt h_24; have eh_25 : v_2.toInt ≠ 26 := ne_toInt h_25; have eh_26 : v_2.toInt ≠ 27 := ne_toInt h_26; omega) (by decide) ?_
  exact aw_return rfl dX4_doStep_183
def F4_run_L12 (t0 : Nat) (t1 : Nat) (t2 : Nat) (t3 : Nat) : Nat → Mem → Int32 → Int32 → Option (Unit × Mem)
  | 0 => fun _ _ _ => none
  | n + 1 => fun σ x5 x6 =>
    if 1000000 ≤ x6 then (some ((), σ)) else (if x5 < 0 then (some ((), σ)) else (if (gI σ 5 t1 0 2) ≤ x5 then (some ((), σ)) else ((ald 60 (gI σ 5 t1 1) x5).bind fun v_2 => if v_2 = 28 then (bd (F4_behindEnd σ t0 t1 x5) fun v_10 s_11 => (F4_run_L12 t0 t1 t2 t3 n) s_11 v_10 (x6 + 1)) else (if (gI σ 4 t0 0 1) < 300 then (bnd (sI σ 4 t0 0 1 ((gI σ 4 t0 0 1) + 1)) fun s_3 => if v_2 = 29 then (some ((), s_3)) else (if v_2 = 23 then ((F4_holds s_3 t1 x5 t3).bind fun v_5 => if v_5 = true then (bd (F4_doStep s_3 t0 t1 x5 t2 t3) fun _ s_6 => (F4_run_L12 t0 t1 t2 t3 n) s_6 (x5 + 1) (x6 + 1)) else ((ald 60 (gI s_3 5 t1 5) x5).bind fun v_7 => bnd (v_7 + 1) fun v_8 => (F4_run_L12 t0 t1 t2 t3 n) s_3 v_8 (x6 + 1))) else (bd (F4_doStep s_3 t0 t1 x5 t2 t3) fun _ s_4 => (F4_run_L12 t0 t1 t2 t3 n) s_4 (x5 + 1) (x6 + 1)))) else (bnd (sI σ 4 t0 0 6 1) fun s_9 => some ((), s_9))))))
set_option maxRecDepth 20000 in
theorem c4_run_L12 {l : Launch} {D : va_G} {ad : Nat → Nat → Nat → Nat} {cid : Nat → Nat → Nat → ClassId} (t0 : Nat) (ht0 : t0 < 2) (t1 : Nat) (ht1 : t1 < 5) (t2 : Nat) (ht2 : t2 < 5) (t3 : Nat) (ht3 : t3 < 5) : ∀ (n : Nat) (σ : Mem) (x5 : Int32) (x6 : Int32), AW (XC l D ad cid) M4_run 6 eU [(0, .ref (ad 4 t0 0)), (1, .ref (ad 5 t1 0)), (2, .ref (ad 9 t2 0)), (3, .ref (ad 7 t3 0)), (5, .int x5), (6, .int x6)] 12 [] σ ((F4_run_L12 t0 t1 t2 t3 n σ x5 x6).bind some) := by
  intro n
  induction n with
  | zero => intros; exact aw_none
  | succ n ih =>
    intro σ x5 x6
    rw [F4_run_L12.eq_2]
    refine aw_iload 5 dX4_run_12 rfl ?_
    refine aw_ldc w_1367 dX4_run_14 ?_
    refine aw_icmp_ge 144 dX4_run_16 (by decide) ?_ ?_
    · exact aw_return rfl dX4_run_144
    · refine aw_iload 4 dX4_run_19 rfl ?_
      refine aw_if_lt 144 dX4_run_21 (by decide) ?_ ?_
      · exact aw_return rfl dX4_run_144
      · refine aw_iload 4 dX4_run_24 rfl ?_
        refine aw_aload_n 1 dX4_run_26 rfl rfl ?_
        refine aw_getf (fg_5_2 (by omega)) ci_5 (by decide) w_420 dX4_run_27 ?_
        refine aw_icmp_ge 144 dX4_run_30 (by decide) ?_ ?_
        · exact aw_return rfl dX4_run_144
        · refine aw_aload_n 1 dX4_run_33 rfl rfl ?_
          refine aw_getf (fg_5_3 (by omega)) ci_5 (by decide) w_422 dX4_run_34 ?_
          refine aw_iload 4 dX4_run_37 rfl ?_
          refine aw_iaload (ar_5_1 (by omega)) dX4_run_39 (fun v_2 => ?_)
          refine aw_istore (ls' := [(0, .ref (ad 4 t0 0)), (1, .ref (ad 5 t1 0)), (2, .ref (ad 9 t2 0)), (3, .ref (ad 7 t3 0)), (5, .int x5), (6, .int x6), (7, .int v_2)]) [1, 2, 3, 4, 5, 6, 0] dX4_run_40 (by decide) rfl ?_
          refine aw_iload 6 dX4_run_42 rfl ?_
          refine aw_bipush 28 dX4_run_44 (by decide) ?_
          refine aw_icmp_ne 61 dX4_run_46 (by decide) ?_ ?_
          · refine aw_aload_n 0 dX4_run_61 rfl rfl ?_
            refine aw_getf (fg_4_1 (by omega)) ci_4 (by decide) w_675 dX4_run_62 ?_
            refine aw_sipush 300 dX4_run_65 (by decide) ?_
            refine aw_icmp_lt 77 dX4_run_68 (by decide) ?_ ?_
            · refine aw_aload_n 0 dX4_run_77 rfl rfl ?_
              refine aw_dup dX4_run_78 rfl ?_
              refine aw_getf (fg_4_1 (by omega)) ci_4 (by decide) w_675 dX4_run_79 ?_
              refine aw_iconst 1 dX4_run_82 (by decide) ?_
              refine aw_iadd dX4_run_83 ?_
              refine aw_putI (fs_4_1 (by omega)) ci_4 (by decide) rfl rfl w_675 dX4_run_84 ?_
              refine aw_bndM (fun s_3 => ?_)
              refine aw_iload 6 dX4_run_87 rfl ?_
              refine aw_bipush 29 dX4_run_89 (by decide) ?_
              refine aw_icmp_ne 95 dX4_run_91 (by decide) ?_ ?_
              · refine aw_iload 6 dX4_run_95 rfl ?_
                refine aw_bipush 23 dX4_run_97 (by decide) ?_
                refine aw_icmp_ne 126 dX4_run_99 (by decide) ?_ ?_
                · refine aw_aload_n 0 dX4_run_126 rfl rfl ?_
                  refine aw_aload_n 1 dX4_run_127 rfl rfl ?_
                  refine aw_iload 4 dX4_run_128 rfl ?_
                  refine aw_aload_n 2 dX4_run_130 rfl rfl ?_
                  refine aw_aload_n 3 dX4_run_131 rfl rfl ?_
                  refine aw_callVW_U (c4_doStep s_3 t0 (by omega) t1 (by omega) x5 t2 (by omega) t3 (by omega)) (io_4 (by omega)) ci_4 (by decide) mk_4_doStep w_1378 w_43 w_1376 rfl rfl (Nat.le_of_ble_eq_true rfl) dX4_run_132 (fun _ s_4 => ?_)
                  refine aw_iinc (ls' := [(0, .ref (ad 4 t0 0)), (1, .ref (ad 5 t1 0)), (2, .ref (ad 9 t2 0)), (3, .ref (ad 7 t3 0)), (5, .int (x5 + 1)), (6, .int x6)]) (x5 + 1) 4 [1, 2, 3, 4, 0, 5] dX4_run_135 rfl (by rfl) (by decide) rfl ?_
                  refine aw_iinc (ls' := [(0, .ref (ad 4 t0 0)), (1, .ref (ad 5 t1 0)), (2, .ref (ad 9 t2 0)), (3, .ref (ad 7 t3 0)), (5, .int (x5 + 1)), (6, .int (x6 + 1))]) (x6 + 1) 5 [1, 2, 3, 4, 5, 0] dX4_run_138 rfl (by rfl) (by decide) rfl ?_
                  refine aw_goto 12 dX4_run_141 (by decide) ?_
                  exact ih s_4 (x5 + 1) (x6 + 1)
                · refine aw_aload_n 1 dX4_run_102 rfl rfl ?_
                  refine aw_iload 4 dX4_run_103 rfl ?_
                  refine aw_aload_n 3 dX4_run_105 rfl rfl ?_
                  refine aw_callSO_B (c4_holds s_3 t1 (by omega) x5 t3 (by omega)) (by decide) mk_4_holds w_1374 w_1373 rfl rfl (Nat.le_of_ble_eq_true rfl) dX4_run_106 (fun v_5 => ?_)
                  refine aw_bif_ne 126 dX4_run_109 (by decide) ?_ ?_
                  · refine aw_aload_n 0 dX4_run_126 rfl rfl ?_
                    refine aw_aload_n 1 dX4_run_127 rfl rfl ?_
                    refine aw_iload 4 dX4_run_128 rfl ?_
                    refine aw_aload_n 2 dX4_run_130 rfl rfl ?_
                    refine aw_aload_n 3 dX4_run_131 rfl rfl ?_
                    refine aw_callVW_U (c4_doStep s_3 t0 (by omega) t1 (by omega) x5 t2 (by omega) t3 (by omega)) (io_4 (by omega)) ci_4 (by decide) mk_4_doStep w_1378 w_43 w_1376 rfl rfl (Nat.le_of_ble_eq_true rfl) dX4_run_132 (fun _ s_6 => ?_)
                    refine aw_iinc (ls' := [(0, .ref (ad 4 t0 0)), (1, .ref (ad 5 t1 0)), (2, .ref (ad 9 t2 0)), (3, .ref (ad 7 t3 0)), (5, .int (x5 + 1)), (6, .int x6)]) (x5 + 1) 4 [1, 2, 3, 4, 0, 5] dX4_run_135 rfl (by rfl) (by decide) rfl ?_
                    refine aw_iinc (ls' := [(0, .ref (ad 4 t0 0)), (1, .ref (ad 5 t1 0)), (2, .ref (ad 9 t2 0)), (3, .ref (ad 7 t3 0)), (5, .int (x5 + 1)), (6, .int (x6 + 1))]) (x6 + 1) 5 [1, 2, 3, 4, 5, 0] dX4_run_138 rfl (by rfl) (by decide) rfl ?_
                    refine aw_goto 12 dX4_run_141 (by decide) ?_
                    exact ih s_6 (x5 + 1) (x6 + 1)
                  · refine aw_aload_n 1 dX4_run_112 rfl rfl ?_
                    refine aw_getf (fg_5_7 (by omega)) ci_5 (by decide) w_430 dX4_run_113 ?_
                    refine aw_iload 4 dX4_run_116 rfl ?_
                    refine aw_iaload (ar_5_5 (by omega)) dX4_run_118 (fun v_7 => ?_)
                    refine aw_iconst 1 dX4_run_119 (by decide) ?_
                    refine aw_iadd dX4_run_120 ?_
                    refine aw_bnd_int (fun v_8 => ?_)
                    refine aw_istore (ls' := [(0, .ref (ad 4 t0 0)), (1, .ref (ad 5 t1 0)), (2, .ref (ad 9 t2 0)), (3, .ref (ad 7 t3 0)), (5, .int v_8), (6, .int x6)]) [1, 2, 3, 4, 0, 5] dX4_run_121 (by decide) rfl ?_
                    refine aw_goto 138 dX4_run_123 (by decide) ?_
                    refine aw_iinc (ls' := [(0, .ref (ad 4 t0 0)), (1, .ref (ad 5 t1 0)), (2, .ref (ad 9 t2 0)), (3, .ref (ad 7 t3 0)), (5, .int v_8), (6, .int (x6 + 1))]) (x6 + 1) 5 [1, 2, 3, 4, 5, 0] dX4_run_138 rfl (by rfl) (by decide) rfl ?_
                    refine aw_goto 12 dX4_run_141 (by decide) ?_
                    exact ih s_3 v_8 (x6 + 1)
              · exact aw_return rfl dX4_run_94
            · refine aw_aload_n 0 dX4_run_71 rfl rfl ?_
              refine aw_iconst 1 dX4_run_72 (by decide) ?_
              refine aw_putI (fs_4_6 (by omega)) ci_4 (by decide) rfl rfl w_685 dX4_run_73 ?_
              refine aw_bndM (fun s_9 => ?_)
              exact aw_return rfl dX4_run_76
          · refine aw_aload_n 0 dX4_run_49 rfl rfl ?_
            refine aw_aload_n 1 dX4_run_50 rfl rfl ?_
            refine aw_iload 4 dX4_run_51 rfl ?_
            refine aw_callVW_I (c4_behindEnd σ t0 (by omega) t1 (by omega) x5) (io_4 (by omega)) ci_4 (by decide) mk_4_behindEnd w_1370 w_42 w_1368 rfl rfl (Nat.le_of_ble_eq_true rfl) dX4_run_53 (fun v_10 s_11 => ?_)
            refine aw_istore (ls' := [(0, .ref (ad 4 t0 0)), (1, .ref (ad 5 t1 0)), (2, .ref (ad 9 t2 0)), (3, .ref (ad 7 t3 0)), (5, .int v_10), (6, .int x6)]) [1, 2, 3, 4, 0, 5] dX4_run_56 (by decide) rfl ?_
            refine aw_goto 138 dX4_run_58 (by decide) ?_
            refine aw_iinc (ls' := [(0, .ref (ad 4 t0 0)), (1, .ref (ad 5 t1 0)), (2, .ref (ad 9 t2 0)), (3, .ref (ad 7 t3 0)), (5, .int v_10), (6, .int (x6 + 1))]) (x6 + 1) 5 [1, 2, 3, 4, 5, 0] dX4_run_138 rfl (by rfl) (by decide) rfl ?_
            refine aw_goto 12 dX4_run_141 (by decide) ?_
            exact ih s_11 v_10 (x6 + 1)
def F4_run (σ : Mem) (t0 : Nat) (t1 : Nat) (t2 : Nat) (t3 : Nat) (x4 : Int32) : Option (Unit × Mem) :=
  bd (F4_begin σ t0 x4) fun _ s_1 => F4_run_L12 t0 t1 t2 t3 fuelK s_1 0 0
set_option maxRecDepth 20000 in
theorem c4_run {l : Launch} {D : va_G} {ad : Nat → Nat → Nat → Nat} {cid : Nat → Nat → Nat → ClassId} (σ : Mem) (t0 : Nat) (ht0 : t0 < 2) (t1 : Nat) (ht1 : t1 < 5) (t2 : Nat) (ht2 : t2 < 5) (t3 : Nat) (ht3 : t3 < 5) (x4 : Int32) : AMF (XC l D ad cid) M4_run 6 eU [.ref (ad 4 t0 0), .ref (ad 5 t1 0), .ref (ad 9 t2 0), .ref (ad 7 t3 0), .int x4] σ (F4_run σ t0 t1 t2 t3 x4) := by
  refine AM.ofW (by decide +kernel) (Nat.le_of_ble_eq_true rfl) (ls := [(0, .ref (ad 4 t0 0)), (1, .ref (ad 5 t1 0)), (2, .ref (ad 9 t2 0)), (3, .ref (ad 7 t3 0)), (4, .int x4)]) rfl ?_
  refine aw_entry ?_
  unfold F4_run
  refine aw_aload_n 0 dX4_run_0 rfl rfl ?_
  refine aw_iload 4 dX4_run_1 rfl ?_
  refine aw_callVW_U (c4_begin σ t0 (by omega) x4) (io_4 (by omega)) ci_4 (by decide) mk_4_begin w_1365 w_41 w_1363 rfl rfl (Nat.le_of_ble_eq_true rfl) dX4_run_3 (fun _ s_1 => ?_)
  refine aw_iconst 0 dX4_run_6 (by decide) ?_
  refine aw_istore (ls' := [(0, .ref (ad 4 t0 0)), (1, .ref (ad 5 t1 0)), (2, .ref (ad 9 t2 0)), (3, .ref (ad 7 t3 0)), (5, .int 0)]) [1, 2, 3, 4, 0] dX4_run_7 (by decide) rfl ?_
  refine aw_iconst 0 dX4_run_9 (by decide) ?_
  refine aw_istore (ls' := [(0, .ref (ad 4 t0 0)), (1, .ref (ad 5 t1 0)), (2, .ref (ad 9 t2 0)), (3, .ref (ad 7 t3 0)), (5, .int 0), (6, .int 0)]) [1, 2, 3, 4, 5, 0] dX4_run_10 (by decide) rfl ?_
  exact c4_run_L12 t0 (by omega) t1 (by omega) t2 (by omega) t3 (by omega) fuelK s_1 0 0
def F11_play (σ : Mem) (x1 : Int32) : Option (Int32 × Mem) :=
  if (F11_within x1 0 9999) = true then (gd 5 (gR σ 11 0 0 7) fun t_1 => if (gB σ 5 t_1 0 0) = true then (gd 5 (gR σ 11 0 0 7) fun t_2 => gd 5 (gR σ 11 0 0 5) fun t_3 => bd (F4_run σ 0 t_2 t_3 0 x1) fun _ s_4 => bd (F11_answer s_4 (gI s_4 4 0 0 1)) fun v_5 s_6 => some (v_5, s_6)) else (bd (F11_refuse σ 8) fun v_7 s_8 => some (v_7, s_8))) else (bd (F11_refuse σ 5) fun v_9 s_10 => some (v_9, s_10))
set_option maxRecDepth 20000 in
theorem c11_play {l : Launch} {D : va_G} {ad : Nat → Nat → Nat → Nat} {cid : Nat → Nat → Nat → ClassId} (σ : Mem) (x1 : Int32) : AMF (XC l D ad cid) M11_play 7 eI [.ref (ad 11 0 0), .int x1] σ (F11_play σ x1) := by
  refine AM.ofW (by decide +kernel) (Nat.le_of_ble_eq_true rfl) (ls := [(0, .ref (ad 11 0 0)), (1, .int x1)]) rfl ?_
  refine aw_entry ?_
  unfold F11_play
  refine aw_iload_n 1 dX11_play_0 rfl rfl ?_
  refine aw_iconst 0 dX11_play_1 (by decide) ?_
  refine aw_sipush 9999 dX11_play_2 (by decide) ?_
  refine aw_callST_B (c11_within σ x1 0 9999) (by decide) mk_11_within w_798 w_797 rfl rfl (Nat.le_of_ble_eq_true rfl) dX11_play_5 ?_
  refine aw_bif_ne 17 dX11_play_8 (by decide) ?_ ?_
  · refine aw_aload_n 0 dX11_play_17 rfl rfl ?_
    refine aw_getf (fg_11_7 (by decide)) ci_11 (by decide) w_724 dX11_play_18 ?_
    refine aw_gd (n := 5) (fun t_1 ht_1 => ?_)
    refine aw_getf (fg_5_0 (by omega)) ci_5 (by decide) w_416 dX11_play_21 ?_
    refine aw_bif_ne 34 dX11_play_24 (by decide) ?_ ?_
    · refine aw_aload_n 0 dX11_play_34 rfl rfl ?_
      refine aw_getf (fg_11_18 (by decide)) ci_11 (by decide) w_735 dX11_play_35 ?_
      refine aw_aload_n 0 dX11_play_38 rfl rfl ?_
      refine aw_getf (fg_11_7 (by decide)) ci_11 (by decide) w_724 dX11_play_39 ?_
      refine aw_gd (n := 5) (fun t_2 ht_2 => ?_)
      refine aw_aload_n 0 dX11_play_42 rfl rfl ?_
      refine aw_getf (fg_11_5 (by decide)) ci_11 (by decide) w_722 dX11_play_43 ?_
      refine aw_gd (n := 5) (fun t_3 ht_3 => ?_)
      refine aw_aload_n 0 dX11_play_46 rfl rfl ?_
      refine aw_getf (fg_11_9 (by decide)) ci_11 (by decide) w_726 dX11_play_47 ?_
      refine aw_iload_n 1 dX11_play_50 rfl rfl ?_
      refine aw_callVW_U (c4_run σ 0 (by decide) t_2 (by omega) t_3 (by omega) 0 (by decide) x1) (io_4 (by decide)) ci_4 (by decide) mk_4_run w_1360 w_1361 w_1359 rfl rfl (Nat.le_of_ble_eq_true rfl) dX11_play_51 (fun _ s_4 => ?_)
      refine aw_aload_n 0 dX11_play_54 rfl rfl ?_
      refine aw_aload_n 0 dX11_play_55 rfl rfl ?_
      refine aw_getf (fg_11_18 (by decide)) ci_11 (by decide) w_735 dX11_play_56 ?_
      refine aw_getf (fg_4_1 (by decide)) ci_4 (by decide) w_676 dX11_play_59 ?_
      refine aw_callVW_I (c11_answer s_4 (gI s_4 4 0 0 1)) (io_11 (by decide)) ci_11 (by decide) mk_11_answer w_975 w_15 w_973 rfl rfl (Nat.le_of_ble_eq_true rfl) dX11_play_62 (fun v_5 s_6 => ?_)
      exact aw_ireturn rfl dX11_play_65
    · refine aw_aload_n 0 dX11_play_27 rfl rfl ?_
      refine aw_bipush 8 dX11_play_28 (by decide) ?_
      refine aw_callVW_I (c11_refuse σ 8) (io_11 (by decide)) ci_11 (by decide) mk_11_refuse w_838 w_3 w_836 rfl rfl (Nat.le_of_ble_eq_true rfl) dX11_play_30 (fun v_7 s_8 => ?_)
      exact aw_ireturn rfl dX11_play_33
  · refine aw_aload_n 0 dX11_play_11 rfl rfl ?_
    refine aw_iconst 5 dX11_play_12 (by decide) ?_
    refine aw_callVW_I (c11_refuse σ 5) (io_11 (by decide)) ci_11 (by decide) mk_11_refuse w_838 w_3 w_836 rfl rfl (Nat.le_of_ble_eq_true rfl) dX11_play_13 (fun v_9 s_10 => ?_)
    exact aw_ireturn rfl dX11_play_16
def F11_played (σ : Mem) (x1 : Int32) : Option (Int32 × Mem) :=
  if (F11_within x1 0 4) = true then (if (gB σ 4 0 0 0) = true then (if x1 = 0 then (bd (F11_answer σ (gI σ 4 0 0 2)) fun v_2 s_3 => some (v_2, s_3)) else if x1 = 1 then (bd (F11_answer σ (gI σ 4 0 0 3)) fun v_5 s_6 => some (v_5, s_6)) else if x1 = 2 then (bd (F11_answer σ (gI σ 4 0 0 4)) fun v_8 s_9 => some (v_8, s_9)) else if x1 = 3 then (bd (F11_answer σ (gI σ 4 0 0 5)) fun v_11 s_12 => some (v_11, s_12)) else (bd (F11_answer σ (gI σ 4 0 0 6)) fun v_13 s_14 => some (v_13, s_14))) else (bd (F11_refuse σ 8) fun v_15 s_16 => some (v_15, s_16))) else (bd (F11_refuse σ 5) fun v_17 s_18 => some (v_17, s_18))
set_option maxRecDepth 20000 in
theorem c11_played {l : Launch} {D : va_G} {ad : Nat → Nat → Nat → Nat} {cid : Nat → Nat → Nat → ClassId} (σ : Mem) (x1 : Int32) : AMF (XC l D ad cid) M11_played 1 eI [.ref (ad 11 0 0), .int x1] σ (F11_played σ x1) := by
  refine AM.ofW (by decide +kernel) (Nat.le_of_ble_eq_true rfl) (ls := [(0, .ref (ad 11 0 0)), (1, .int x1)]) rfl ?_
  refine aw_entry ?_
  unfold F11_played
  refine aw_iload_n 1 dX11_played_0 rfl rfl ?_
  refine aw_iconst 0 dX11_played_1 (by decide) ?_
  refine aw_iconst 4 dX11_played_2 (by decide) ?_
  refine aw_callST_B (c11_within σ x1 0 4) (by decide) mk_11_within w_798 w_797 rfl rfl (Nat.le_of_ble_eq_true rfl) dX11_played_3 ?_
  refine aw_bif_ne 15 dX11_played_6 (by decide) ?_ ?_
  · refine aw_aload_n 0 dX11_played_15 rfl rfl ?_
    refine aw_getf (fg_11_18 (by decide)) ci_11 (by decide) w_735 dX11_played_16 ?_
    refine aw_getf (fg_4_0 (by decide)) ci_4 (by decide) w_674 dX11_played_19 ?_
    refine aw_bif_ne 32 dX11_played_22 (by decide) ?_ ?_
    · refine aw_iload_n 1 dX11_played_32 rfl rfl ?_
      refine aw_case (c := 0) (fun h_1 => ?_) (fun h_1 => ?_)
      · refine aw_tabIn 64 h_1 dX11_played_33 (by decide) (by decide) rfl (by decide) ?_
        refine aw_aload_n 0 dX11_played_64 rfl rfl ?_
        refine aw_aload_n 0 dX11_played_65 rfl rfl ?_
        refine aw_getf (fg_11_18 (by decide)) ci_11 (by decide) w_735 dX11_played_66 ?_
        refine aw_getf (fg_4_2 (by decide)) ci_4 (by decide) w_678 dX11_played_69 ?_
        refine aw_callVW_I (c11_answer σ (gI σ 4 0 0 2)) (io_11 (by decide)) ci_11 (by decide) mk_11_answer w_975 w_15 w_973 rfl rfl (Nat.le_of_ble_eq_true rfl) dX11_played_72 (fun v_2 s_3 => ?_)
        exact aw_ireturn rfl dX11_played_75
      refine aw_case (c := 1) (fun h_4 => ?_) (fun h_4 => ?_)
      · refine aw_tabIn 76 h_4 dX11_played_33 (by decide) (by decide) rfl (by decide) ?_
        refine aw_aload_n 0 dX11_played_76 rfl rfl ?_
        refine aw_aload_n 0 dX11_played_77 rfl rfl ?_
        refine aw_getf (fg_11_18 (by decide)) ci_11 (by decide) w_735 dX11_played_78 ?_
        refine aw_getf (fg_4_3 (by decide)) ci_4 (by decide) w_680 dX11_played_81 ?_
        refine aw_callVW_I (c11_answer σ (gI σ 4 0 0 3)) (io_11 (by decide)) ci_11 (by decide) mk_11_answer w_975 w_15 w_973 rfl rfl (Nat.le_of_ble_eq_true rfl) dX11_played_84 (fun v_5 s_6 => ?_)
        exact aw_ireturn rfl dX11_played_87
      refine aw_case (c := 2) (fun h_7 => ?_) (fun h_7 => ?_)
      · refine aw_tabIn 88 h_7 dX11_played_33 (by decide) (by decide) rfl (by decide) ?_
        refine aw_aload_n 0 dX11_played_88 rfl rfl ?_
        refine aw_aload_n 0 dX11_played_89 rfl rfl ?_
        refine aw_getf (fg_11_18 (by decide)) ci_11 (by decide) w_735 dX11_played_90 ?_
        refine aw_getf (fg_4_4 (by decide)) ci_4 (by decide) w_682 dX11_played_93 ?_
        refine aw_callVW_I (c11_answer σ (gI σ 4 0 0 4)) (io_11 (by decide)) ci_11 (by decide) mk_11_answer w_975 w_15 w_973 rfl rfl (Nat.le_of_ble_eq_true rfl) dX11_played_96 (fun v_8 s_9 => ?_)
        exact aw_ireturn rfl dX11_played_99
      refine aw_case (c := 3) (fun h_10 => ?_) (fun h_10 => ?_)
      · refine aw_tabIn 100 h_10 dX11_played_33 (by decide) (by decide) rfl (by decide) ?_
        refine aw_aload_n 0 dX11_played_100 rfl rfl ?_
        refine aw_aload_n 0 dX11_played_101 rfl rfl ?_
        refine aw_getf (fg_11_18 (by decide)) ci_11 (by decide) w_735 dX11_played_102 ?_
        refine aw_getf (fg_4_5 (by decide)) ci_4 (by decide) w_684 dX11_played_105 ?_
        refine aw_callVW_I (c11_answer σ (gI σ 4 0 0 5)) (io_11 (by decide)) ci_11 (by decide) mk_11_answer w_975 w_15 w_973 rfl rfl (Nat.le_of_ble_eq_true rfl) dX11_played_108 (fun v_11 s_12 => ?_)
        exact aw_ireturn rfl dX11_played_111
      refine aw_tabOut 112 dX11_played_33 (by have eh_1 : x1.toInt ≠ 0 := ne_toInt h_1; have eh_4 : x1.toInt ≠ 1 := ne_toInt h_4; have eh_7 : x1.toInt ≠ 2 := ne_toInt h_7; have eh_10 : x1.toInt ≠ 3 := ne_toInt h_10; omega) (by decide) ?_
      refine aw_aload_n 0 dX11_played_112 rfl rfl ?_
      refine aw_aload_n 0 dX11_played_113 rfl rfl ?_
      refine aw_getf (fg_11_18 (by decide)) ci_11 (by decide) w_735 dX11_played_114 ?_
      refine aw_getf (fg_4_6 (by decide)) ci_4 (by decide) w_686 dX11_played_117 ?_
      refine aw_callVW_I (c11_answer σ (gI σ 4 0 0 6)) (io_11 (by decide)) ci_11 (by decide) mk_11_answer w_975 w_15 w_973 rfl rfl (Nat.le_of_ble_eq_true rfl) dX11_played_120 (fun v_13 s_14 => ?_)
      exact aw_ireturn rfl dX11_played_123
    · refine aw_aload_n 0 dX11_played_25 rfl rfl ?_
      refine aw_bipush 8 dX11_played_26 (by decide) ?_
      refine aw_callVW_I (c11_refuse σ 8) (io_11 (by decide)) ci_11 (by decide) mk_11_refuse w_838 w_3 w_836 rfl rfl (Nat.le_of_ble_eq_true rfl) dX11_played_28 (fun v_15 s_16 => ?_)
      exact aw_ireturn rfl dX11_played_31
  · refine aw_aload_n 0 dX11_played_9 rfl rfl ?_
    refine aw_iconst 5 dX11_played_10 (by decide) ?_
    refine aw_callVW_I (c11_refuse σ 5) (io_11 (by decide)) ci_11 (by decide) mk_11_refuse w_838 w_3 w_836 rfl rfl (Nat.le_of_ble_eq_true rfl) dX11_played_11 (fun v_17 s_18 => ?_)
    exact aw_ireturn rfl dX11_played_14
def F7_copy (σ : Mem) (t0 : Nat) (t1 : Nat) : Option (Unit × Mem) :=
  bnd (sI σ 7 t0 0 0 (gI σ 7 t1 0 0)) fun s_1 => bnd (sI s_1 7 t0 0 1 (gI s_1 7 t1 0 1)) fun s_2 => chkC 60 60 0 0 60 <| bnd (sIf s_2 7 t0 1 (va_cpy (gI s_2 7 t1 1) (gI s_2 7 t0 1) (Int32.toNatClampNeg 0) (Int32.toNatClampNeg 0) (Int32.toNatClampNeg 60))) fun s_3 => chkC 60 60 0 0 60 <| bnd (sIf s_3 7 t0 2 (va_cpy (gI s_3 7 t1 2) (gI s_3 7 t0 2) (Int32.toNatClampNeg 0) (Int32.toNatClampNeg 0) (Int32.toNatClampNeg 60))) fun s_4 => chkC 60 60 0 0 60 <| bnd (sIf s_4 7 t0 3 (va_cpy (gI s_4 7 t1 3) (gI s_4 7 t0 3) (Int32.toNatClampNeg 0) (Int32.toNatClampNeg 0) (Int32.toNatClampNeg 60))) fun s_5 => chkC 60 60 0 0 60 <| bnd (sIf s_5 7 t0 4 (va_cpy (gI s_5 7 t1 4) (gI s_5 7 t0 4) (Int32.toNatClampNeg 0) (Int32.toNatClampNeg 0) (Int32.toNatClampNeg 60))) fun s_6 => chkC 6 6 0 0 6 <| bnd (sIf s_6 7 t0 5 (va_cpy (gI s_6 7 t1 5) (gI s_6 7 t0 5) (Int32.toNatClampNeg 0) (Int32.toNatClampNeg 0) (Int32.toNatClampNeg 6))) fun s_7 => some ((), s_7)
set_option maxRecDepth 20000 in
theorem c7_copy {l : Launch} {D : va_G} {ad : Nat → Nat → Nat → Nat} {cid : Nat → Nat → Nat → ClassId} (σ : Mem) (t0 : Nat) (ht0 : t0 < 5) (t1 : Nat) (ht1 : t1 < 5) : AMF (XC l D ad cid) M7_copy 0 eU [.ref (ad 7 t0 0), .ref (ad 7 t1 0)] σ (F7_copy σ t0 t1) := by
  refine AM.ofW (by decide +kernel) (Nat.le_of_ble_eq_true rfl) (ls := [(0, .ref (ad 7 t0 0)), (1, .ref (ad 7 t1 0))]) rfl ?_
  refine aw_entry ?_
  unfold F7_copy
  refine aw_aload_n 0 dX7_copy_0 rfl rfl ?_
  refine aw_aload_n 1 dX7_copy_1 rfl rfl ?_
  refine aw_getf (fg_7_0 (by omega)) ci_7 (by decide) w_460 dX7_copy_2 ?_
  refine aw_putI (fs_7_0 (by omega)) ci_7 (by decide) rfl rfl w_460 dX7_copy_5 ?_
  refine aw_bndM (fun s_1 => ?_)
  refine aw_aload_n 0 dX7_copy_8 rfl rfl ?_
  refine aw_aload_n 1 dX7_copy_9 rfl rfl ?_
  refine aw_getf (fg_7_1 (by omega)) ci_7 (by decide) w_463 dX7_copy_10 ?_
  refine aw_putI (fs_7_1 (by omega)) ci_7 (by decide) rfl rfl w_463 dX7_copy_13 ?_
  refine aw_bndM (fun s_2 => ?_)
  refine aw_aload_n 1 dX7_copy_16 rfl rfl ?_
  refine aw_getf (fg_7_2 (by omega)) ci_7 (by decide) w_466 dX7_copy_17 ?_
  refine aw_iconst 0 dX7_copy_20 (by decide) ?_
  refine aw_aload_n 0 dX7_copy_21 rfl rfl ?_
  refine aw_getf (fg_7_2 (by omega)) ci_7 (by decide) w_466 dX7_copy_22 ?_
  refine aw_iconst 0 dX7_copy_25 (by decide) ?_
  refine aw_bipush 60 dX7_copy_26 (by decide) ?_
  refine aw_copyI (ar_7_1 (by omega)) (ar_7_1 (by omega)) w_1416 w_846 w_845 w_158 (Nat.le_of_ble_eq_true rfl) dX7_copy_28 ?_
  refine aw_bndM (fun s_3 => ?_)
  refine aw_aload_n 1 dX7_copy_31 rfl rfl ?_
  refine aw_getf (fg_7_3 (by omega)) ci_7 (by decide) w_468 dX7_copy_32 ?_
  refine aw_iconst 0 dX7_copy_35 (by decide) ?_
  refine aw_aload_n 0 dX7_copy_36 rfl rfl ?_
  refine aw_getf (fg_7_3 (by omega)) ci_7 (by decide) w_468 dX7_copy_37 ?_
  refine aw_iconst 0 dX7_copy_40 (by decide) ?_
  refine aw_bipush 60 dX7_copy_41 (by decide) ?_
  refine aw_copyI (ar_7_2 (by omega)) (ar_7_2 (by omega)) w_1416 w_846 w_845 w_158 (Nat.le_of_ble_eq_true rfl) dX7_copy_43 ?_
  refine aw_bndM (fun s_4 => ?_)
  refine aw_aload_n 1 dX7_copy_46 rfl rfl ?_
  refine aw_getf (fg_7_4 (by omega)) ci_7 (by decide) w_470 dX7_copy_47 ?_
  refine aw_iconst 0 dX7_copy_50 (by decide) ?_
  refine aw_aload_n 0 dX7_copy_51 rfl rfl ?_
  refine aw_getf (fg_7_4 (by omega)) ci_7 (by decide) w_470 dX7_copy_52 ?_
  refine aw_iconst 0 dX7_copy_55 (by decide) ?_
  refine aw_bipush 60 dX7_copy_56 (by decide) ?_
  refine aw_copyI (ar_7_3 (by omega)) (ar_7_3 (by omega)) w_1416 w_846 w_845 w_158 (Nat.le_of_ble_eq_true rfl) dX7_copy_58 ?_
  refine aw_bndM (fun s_5 => ?_)
  refine aw_aload_n 1 dX7_copy_61 rfl rfl ?_
  refine aw_getf (fg_7_5 (by omega)) ci_7 (by decide) w_472 dX7_copy_62 ?_
  refine aw_iconst 0 dX7_copy_65 (by decide) ?_
  refine aw_aload_n 0 dX7_copy_66 rfl rfl ?_
  refine aw_getf (fg_7_5 (by omega)) ci_7 (by decide) w_472 dX7_copy_67 ?_
  refine aw_iconst 0 dX7_copy_70 (by decide) ?_
  refine aw_bipush 60 dX7_copy_71 (by decide) ?_
  refine aw_copyI (ar_7_4 (by omega)) (ar_7_4 (by omega)) w_1416 w_846 w_845 w_158 (Nat.le_of_ble_eq_true rfl) dX7_copy_73 ?_
  refine aw_bndM (fun s_6 => ?_)
  refine aw_aload_n 1 dX7_copy_76 rfl rfl ?_
  refine aw_getf (fg_7_6 (by omega)) ci_7 (by decide) w_474 dX7_copy_77 ?_
  refine aw_iconst 0 dX7_copy_80 (by decide) ?_
  refine aw_aload_n 0 dX7_copy_81 rfl rfl ?_
  refine aw_getf (fg_7_6 (by omega)) ci_7 (by decide) w_474 dX7_copy_82 ?_
  refine aw_iconst 0 dX7_copy_85 (by decide) ?_
  refine aw_bipush 6 dX7_copy_86 (by decide) ?_
  refine aw_copyI (ar_7_5 (by omega)) (ar_7_5 (by omega)) w_1416 w_846 w_845 w_158 (Nat.le_of_ble_eq_true rfl) dX7_copy_88 ?_
  refine aw_bndM (fun s_7 => ?_)
  exact aw_return rfl dX7_copy_91
def F7_leads_L2 (t0 : Nat) (x1 : Int32) (x2 : Int32) : Nat → Mem → Int32 → Option Bool
  | 0 => fun _ _ => none
  | n + 1 => fun σ x3 =>
    if x2 ≤ x3 then (some true) else (if x3 = x1 then ((F7_leads_L2 t0 x1 x2 n) σ (x3 + 1)) else ((ald 6 (gI σ 7 t0 5) x3).bind fun v_1 => (ald 6 (gI σ 7 t0 5) x1).bind fun v_2 => if v_1 < v_2 then ((F7_leads_L2 t0 x1 x2 n) σ (x3 + 1)) else (some false)))
set_option maxRecDepth 20000 in
theorem c7_leads_L2 {l : Launch} {D : va_G} {ad : Nat → Nat → Nat → Nat} {cid : Nat → Nat → Nat → ClassId} (t0 : Nat) (ht0 : t0 < 5) (x1 : Int32) (x2 : Int32) : ∀ (n : Nat) (σ : Mem) (x3 : Int32), AW (XC l D ad cid) M7_leads 0 eB [(0, .ref (ad 7 t0 0)), (1, .int x1), (2, .int x2), (3, .int x3)] 2 [] σ ((F7_leads_L2 t0 x1 x2 n σ x3).bind (fun v => some (v, σ))) := by
  intro n
  induction n with
  | zero => intros; exact aw_none
  | succ n ih =>
    intro σ x3
    rw [F7_leads_L2.eq_2]
    refine aw_iload_n 3 dX7_leads_2 rfl rfl ?_
    refine aw_iload_n 2 dX7_leads_3 rfl rfl ?_
    refine aw_icmp_ge 35 dX7_leads_4 (by decide) ?_ ?_
    · refine aw_iconst 1 dX7_leads_35 (by decide) ?_
      exact aw_zreturn (b := true) rfl rfl dX7_leads_36
    · refine aw_iload_n 3 dX7_leads_7 rfl rfl ?_
      refine aw_iload_n 1 dX7_leads_8 rfl rfl ?_
      refine aw_icmp_eq 29 dX7_leads_9 (by decide) ?_ ?_
      · refine aw_iinc (ls' := [(0, .ref (ad 7 t0 0)), (1, .int x1), (2, .int x2), (3, .int (x3 + 1))]) (x3 + 1) 3 [1, 2, 3, 0] dX7_leads_29 rfl (by rfl) (by decide) rfl ?_
        refine aw_goto 2 dX7_leads_32 (by decide) ?_
        exact ih σ (x3 + 1)
      · refine aw_aload_n 0 dX7_leads_12 rfl rfl ?_
        refine aw_getf (fg_7_6 (by omega)) ci_7 (by decide) w_474 dX7_leads_13 ?_
        refine aw_iload_n 3 dX7_leads_16 rfl rfl ?_
        refine aw_iaload (ar_7_5 (by omega)) dX7_leads_17 (fun v_1 => ?_)
        refine aw_aload_n 0 dX7_leads_18 rfl rfl ?_
        refine aw_getf (fg_7_6 (by omega)) ci_7 (by decide) w_474 dX7_leads_19 ?_
        refine aw_iload_n 1 dX7_leads_22 rfl rfl ?_
        refine aw_iaload (ar_7_5 (by omega)) dX7_leads_23 (fun v_2 => ?_)
        refine aw_icmp_lt 29 dX7_leads_24 (by decide) ?_ ?_
        · refine aw_iinc (ls' := [(0, .ref (ad 7 t0 0)), (1, .int x1), (2, .int x2), (3, .int (x3 + 1))]) (x3 + 1) 3 [1, 2, 3, 0] dX7_leads_29 rfl (by rfl) (by decide) rfl ?_
          refine aw_goto 2 dX7_leads_32 (by decide) ?_
          exact ih σ (x3 + 1)
        · refine aw_iconst 0 dX7_leads_27 (by decide) ?_
          exact aw_zreturn (b := false) rfl rfl dX7_leads_28
def F7_leads (σ : Mem) (t0 : Nat) (x1 : Int32) (x2 : Int32) : Option Bool :=
  F7_leads_L2 t0 x1 x2 fuelK σ 0
set_option maxRecDepth 20000 in
theorem c7_leads {l : Launch} {D : va_G} {ad : Nat → Nat → Nat → Nat} {cid : Nat → Nat → Nat → ClassId} (σ : Mem) (t0 : Nat) (ht0 : t0 < 5) (x1 : Int32) (x2 : Int32) : AMF (XC l D ad cid) M7_leads 0 eB [.ref (ad 7 t0 0), .int x1, .int x2] σ (oM σ (F7_leads σ t0 x1 x2)) := by
  refine AM.ofW (by decide +kernel) (Nat.le_of_ble_eq_true rfl) (ls := [(0, .ref (ad 7 t0 0)), (1, .int x1), (2, .int x2)]) rfl ?_
  refine aw_entryO ?_
  unfold F7_leads
  refine aw_iconst 0 dX7_leads_0 (by decide) ?_
  refine aw_istore_n (ls' := [(0, .ref (ad 7 t0 0)), (1, .int x1), (2, .int x2), (3, .int 0)]) [1, 2, 3, 0] dX7_leads_1 rfl (by decide) rfl ?_
  exact c7_leads_L2 t0 (by omega) x1 x2 fuelK σ 0
def F11_wins_L75 (x1 : Int32) (x2 : Int32) (x3 : Int32) : Nat → Mem → Int32 → Int32 → Option ((Int32) × Mem)
  | 0 => fun _ _ _ => none
  | n + 1 => fun σ x4 x5 =>
    if x3 ≤ x5 then (some (x4, σ)) else (bd (F7_copy σ 1 0) fun _ s_7 => gd 5 (gR s_7 11 0 0 7) fun t_8 => gd 5 (gR s_7 11 0 0 5) fun t_9 => bd (F4_run s_7 1 t_8 t_9 1 (x2 + x5)) fun _ s_10 => gd 5 (gR s_10 11 0 0 5) fun t_11 => (F7_leads s_10 1 x1 (gI s_10 9 t_11 0 13)).bind fun v_12 => if v_12 = true then ((F11_wins_L75 x1 x2 x3 n) s_10 (x4 + 1) (x5 + 1)) else ((F11_wins_L75 x1 x2 x3 n) s_10 x4 (x5 + 1)))
set_option maxRecDepth 20000 in
theorem c11_wins_L75 {l : Launch} {D : va_G} {ad : Nat → Nat → Nat → Nat} {cid : Nat → Nat → Nat → ClassId} {α : Type} {emb : α → Option Value} (x1 : Int32) (x2 : Int32) (x3 : Int32) {G : Int32 → Mem → Option (α × Mem)} (kx : ∀ r σ, AW (XC l D ad cid) M11_wins 7 emb [(0, .ref (ad 11 0 0)), (3, .int x3), (4, .int r)] 142 [] σ (G r σ)) : ∀ (n : Nat) (σ : Mem) (x4 : Int32) (x5 : Int32), AW (XC l D ad cid) M11_wins 7 emb [(0, .ref (ad 11 0 0)), (1, .int x1), (2, .int x2), (3, .int x3), (4, .int x4), (5, .int x5)] 75 [] σ (bd (F11_wins_L75 x1 x2 x3 n σ x4 x5) G) := by
  intro n
  induction n with
  | zero => intros; exact aw_none
  | succ n ih =>
    intro σ x4 x5
    refine aw_bdB ?_
    rw [F11_wins_L75.eq_2]
    refine aw_iload 5 dX11_wins_75 rfl ?_
    refine aw_iload_n 3 dX11_wins_77 rfl rfl ?_
    refine aw_icmp_ge 142 dX11_wins_78 (by decide) ?_ ?_
    · refine aw_ls (ls' := [(0, .ref (ad 11 0 0)), (3, .int x3), (4, .int x4)]) [0, 3, 4] rfl ?_
      exact kx x4 σ
    · refine aw_aload_n 0 dX11_wins_81 rfl rfl ?_
      refine aw_getf (fg_11_10 (by decide)) ci_11 (by decide) w_727 dX11_wins_82 ?_
      refine aw_aload_n 0 dX11_wins_85 rfl rfl ?_
      refine aw_getf (fg_11_9 (by decide)) ci_11 (by decide) w_726 dX11_wins_86 ?_
      refine aw_callVW_U (c7_copy σ 1 (by decide) 0 (by decide)) (io_7 (by decide)) ci_7 (by decide) mk_7_copy w_1413 w_1414 w_1412 rfl rfl (Nat.le_of_ble_eq_true rfl) dX11_wins_89 (fun _ s_7 => ?_)
      refine aw_aload_n 0 dX11_wins_92 rfl rfl ?_
      refine aw_getf (fg_11_19 (by decide)) ci_11 (by decide) w_736 dX11_wins_93 ?_
      refine aw_aload_n 0 dX11_wins_96 rfl rfl ?_
      refine aw_getf (fg_11_7 (by decide)) ci_11 (by decide) w_724 dX11_wins_97 ?_
      refine aw_gd (n := 5) (fun t_8 ht_8 => ?_)
      refine aw_aload_n 0 dX11_wins_100 rfl rfl ?_
      refine aw_getf (fg_11_5 (by decide)) ci_11 (by decide) w_722 dX11_wins_101 ?_
      refine aw_gd (n := 5) (fun t_9 ht_9 => ?_)
      refine aw_aload_n 0 dX11_wins_104 rfl rfl ?_
      refine aw_getf (fg_11_10 (by decide)) ci_11 (by decide) w_727 dX11_wins_105 ?_
      refine aw_iload_n 2 dX11_wins_108 rfl rfl ?_
      refine aw_iload 5 dX11_wins_109 rfl ?_
      refine aw_iadd dX11_wins_111 ?_
      refine aw_callVW_U (c4_run s_7 1 (by decide) t_8 (by omega) t_9 (by omega) 1 (by decide) (x2 + x5)) (io_4 (by decide)) ci_4 (by decide) mk_4_run w_1360 w_1361 w_1359 rfl rfl (Nat.le_of_ble_eq_true rfl) dX11_wins_112 (fun _ s_10 => ?_)
      refine aw_aload_n 0 dX11_wins_115 rfl rfl ?_
      refine aw_getf (fg_11_10 (by decide)) ci_11 (by decide) w_727 dX11_wins_116 ?_
      refine aw_iload_n 1 dX11_wins_119 rfl rfl ?_
      refine aw_aload_n 0 dX11_wins_120 rfl rfl ?_
      refine aw_getf (fg_11_5 (by decide)) ci_11 (by decide) w_722 dX11_wins_121 ?_
      refine aw_gd (n := 5) (fun t_11 ht_11 => ?_)
      refine aw_getf (fg_9_13 (by omega)) ci_9 (by decide) w_353 dX11_wins_124 ?_
      refine aw_callVO_B (c7_leads s_10 1 (by decide) x1 (gI s_10 9 t_11 0 13)) (io_7 (by decide)) ci_7 (by decide) mk_7_leads w_1418 w_1419 w_1417 rfl rfl (Nat.le_of_ble_eq_true rfl) dX11_wins_127 (fun v_12 => ?_)
      refine aw_bif_eq 136 dX11_wins_130 (by decide) ?_ ?_
      · refine aw_iinc (ls' := [(0, .ref (ad 11 0 0)), (1, .int x1), (2, .int x2), (3, .int x3), (4, .int x4), (5, .int (x5 + 1))]) (x5 + 1) 5 [1, 2, 3, 4, 5, 0] dX11_wins_136 rfl (by rfl) (by decide) rfl ?_
        refine aw_goto 75 dX11_wins_139 (by decide) ?_
        exact ih s_10 x4 (x5 + 1)
      · refine aw_iinc (ls' := [(0, .ref (ad 11 0 0)), (1, .int x1), (2, .int x2), (3, .int x3), (4, .int (x4 + 1)), (5, .int x5)]) (x4 + 1) 4 [1, 2, 3, 4, 0, 5] dX11_wins_133 rfl (by rfl) (by decide) rfl ?_
        refine aw_iinc (ls' := [(0, .ref (ad 11 0 0)), (1, .int x1), (2, .int x2), (3, .int x3), (4, .int (x4 + 1)), (5, .int (x5 + 1))]) (x5 + 1) 5 [1, 2, 3, 4, 5, 0] dX11_wins_136 rfl (by rfl) (by decide) rfl ?_
        refine aw_goto 75 dX11_wins_139 (by decide) ?_
        exact ih s_10 (x4 + 1) (x5 + 1)
def F11_wins (σ : Mem) (x1 : Int32) (x2 : Int32) (x3 : Int32) : Option (Bool × Mem) :=
  (F11_isShooter σ x1).bind fun v_1 => if v_1 = true then (if (F11_within x2 0 9999) = true then (if (F11_within x3 1 20) = true then (if ((x2 + x3) - 1) ≤ 9999 then (gd 5 (gR σ 11 0 0 7) fun t_6 => if (gB σ 5 t_6 0 0) = true then (bd (F11_wins_L75 x1 x2 x3 fuelK σ 0 0) fun r_13 s_14 => bd (F11_tell s_14 (Int32.toInt64 r_13) (Int32.toInt64 x3)) fun _ s_15 => bd (F11_agree s_15) fun v_16 s_17 => some (v_16, s_17)) else (bd (F11_deny σ 8) fun v_18 s_19 => some (v_18, s_19))) else (bd (F11_deny σ 5) fun v_20 s_21 => some (v_20, s_21))) else (bd (F11_deny σ 5) fun v_4 s_5 => some (v_4, s_5))) else (bd (F11_deny σ 5) fun v_2 s_3 => some (v_2, s_3))) else (bd (F11_deny σ 2) fun v_22 s_23 => some (v_22, s_23))
set_option maxRecDepth 20000 in
theorem c11_wins {l : Launch} {D : va_G} {ad : Nat → Nat → Nat → Nat} {cid : Nat → Nat → Nat → ClassId} (σ : Mem) (x1 : Int32) (x2 : Int32) (x3 : Int32) : AMF (XC l D ad cid) M11_wins 7 eB [.ref (ad 11 0 0), .int x1, .int x2, .int x3] σ (F11_wins σ x1 x2 x3) := by
  refine AM.ofW (by decide +kernel) (Nat.le_of_ble_eq_true rfl) (ls := [(0, .ref (ad 11 0 0)), (1, .int x1), (2, .int x2), (3, .int x3)]) rfl ?_
  refine aw_entry ?_
  unfold F11_wins
  refine aw_aload_n 0 dX11_wins_0 rfl rfl ?_
  refine aw_iload_n 1 dX11_wins_1 rfl rfl ?_
  refine aw_callVO_B (c11_isShooter σ x1) (io_11 (by decide)) ci_11 (by decide) mk_11_isShooter w_1064 w_23 w_1062 rfl rfl (Nat.le_of_ble_eq_true rfl) dX11_wins_2 (fun v_1 => ?_)
  refine aw_bif_ne 14 dX11_wins_5 (by decide) ?_ ?_
  · refine aw_iload_n 2 dX11_wins_14 rfl rfl ?_
    refine aw_iconst 0 dX11_wins_15 (by decide) ?_
    refine aw_sipush 9999 dX11_wins_16 (by decide) ?_
    refine aw_callST_B (c11_within σ x2 0 9999) (by decide) mk_11_within w_798 w_797 rfl rfl (Nat.le_of_ble_eq_true rfl) dX11_wins_19 ?_
    refine aw_bif_eq 46 dX11_wins_22 (by decide) ?_ ?_
    · refine aw_aload_n 0 dX11_wins_46 rfl rfl ?_
      refine aw_iconst 5 dX11_wins_47 (by decide) ?_
      refine aw_callVW_B (c11_deny σ 5) (io_11 (by decide)) ci_11 (by decide) mk_11_deny w_802 w_0 w_800 rfl rfl (Nat.le_of_ble_eq_true rfl) dX11_wins_48 (fun v_2 s_3 => ?_)
      exact aw_zreturn (b := v_2) rfl rfl dX11_wins_51
    · refine aw_iload_n 3 dX11_wins_25 rfl rfl ?_
      refine aw_iconst 1 dX11_wins_26 (by decide) ?_
      refine aw_bipush 20 dX11_wins_27 (by decide) ?_
      refine aw_callST_B (c11_within σ x3 1 20) (by decide) mk_11_within w_798 w_797 rfl rfl (Nat.le_of_ble_eq_true rfl) dX11_wins_29 ?_
      refine aw_bif_eq 46 dX11_wins_32 (by decide) ?_ ?_
      · refine aw_aload_n 0 dX11_wins_46 rfl rfl ?_
        refine aw_iconst 5 dX11_wins_47 (by decide) ?_
        refine aw_callVW_B (c11_deny σ 5) (io_11 (by decide)) ci_11 (by decide) mk_11_deny w_802 w_0 w_800 rfl rfl (Nat.le_of_ble_eq_true rfl) dX11_wins_48 (fun v_4 s_5 => ?_)
        exact aw_zreturn (b := v_4) rfl rfl dX11_wins_51
      · refine aw_iload_n 2 dX11_wins_35 rfl rfl ?_
        refine aw_iload_n 3 dX11_wins_36 rfl rfl ?_
        refine aw_iadd dX11_wins_37 ?_
        refine aw_iconst 1 dX11_wins_38 (by decide) ?_
        refine aw_isub dX11_wins_39 ?_
        refine aw_sipush 9999 dX11_wins_40 (by decide) ?_
        refine aw_icmp_le 52 dX11_wins_43 (by decide) ?_ ?_
        · refine aw_aload_n 0 dX11_wins_52 rfl rfl ?_
          refine aw_getf (fg_11_7 (by decide)) ci_11 (by decide) w_724 dX11_wins_53 ?_
          refine aw_gd (n := 5) (fun t_6 ht_6 => ?_)
          refine aw_getf (fg_5_0 (by omega)) ci_5 (by decide) w_416 dX11_wins_56 ?_
          refine aw_bif_ne 69 dX11_wins_59 (by decide) ?_ ?_
          · refine aw_iconst 0 dX11_wins_69 (by decide) ?_
            refine aw_istore (ls' := [(0, .ref (ad 11 0 0)), (1, .int x1), (2, .int x2), (3, .int x3), (4, .int 0)]) [1, 2, 3, 4, 0] dX11_wins_70 (by decide) rfl ?_
            refine aw_iconst 0 dX11_wins_72 (by decide) ?_
            refine aw_istore (ls' := [(0, .ref (ad 11 0 0)), (1, .int x1), (2, .int x2), (3, .int x3), (4, .int 0), (5, .int 0)]) [1, 2, 3, 4, 5, 0] dX11_wins_73 (by decide) rfl ?_
            refine aw_assocW ?_
            refine c11_wins_L75 x1 x2 x3 (fun r_13 s_14 => ?_) fuelK σ 0 0
            refine aw_aload_n 0 dX11_wins_142 rfl rfl ?_
            refine aw_iload 2 dX11_wins_143 rfl ?_
            refine aw_i2l dX11_wins_145 ?_
            refine aw_iload_n 1 dX11_wins_146 rfl rfl ?_
            refine aw_i2l dX11_wins_147 ?_
            refine aw_callVW_U (c11_tell s_14 (Int32.toInt64 r_13) (Int32.toInt64 x3)) (io_11 (by decide)) ci_11 (by decide) mk_11_tell w_1174 w_30 w_1172 rfl rfl (Nat.le_of_ble_eq_true rfl) dX11_wins_148 (fun _ s_15 => ?_)
            refine aw_aload_n 0 dX11_wins_151 rfl rfl ?_
            refine aw_callVW_B (c11_agree s_15 ) (io_11 (by decide)) ci_11 (by decide) mk_11_agree w_813 w_1 w_811 rfl rfl (Nat.le_of_ble_eq_true rfl) dX11_wins_152 (fun v_16 s_17 => ?_)
            exact aw_zreturn (b := v_16) rfl rfl dX11_wins_155
          · refine aw_aload_n 0 dX11_wins_62 rfl rfl ?_
            refine aw_bipush 8 dX11_wins_63 (by decide) ?_
            refine aw_callVW_B (c11_deny σ 8) (io_11 (by decide)) ci_11 (by decide) mk_11_deny w_802 w_0 w_800 rfl rfl (Nat.le_of_ble_eq_true rfl) dX11_wins_65 (fun v_18 s_19 => ?_)
            exact aw_zreturn (b := v_18) rfl rfl dX11_wins_68
        · refine aw_aload_n 0 dX11_wins_46 rfl rfl ?_
          refine aw_iconst 5 dX11_wins_47 (by decide) ?_
          refine aw_callVW_B (c11_deny σ 5) (io_11 (by decide)) ci_11 (by decide) mk_11_deny w_802 w_0 w_800 rfl rfl (Nat.le_of_ble_eq_true rfl) dX11_wins_48 (fun v_20 s_21 => ?_)
          exact aw_zreturn (b := v_20) rfl rfl dX11_wins_51
  · refine aw_aload_n 0 dX11_wins_8 rfl rfl ?_
    refine aw_iconst 2 dX11_wins_9 (by decide) ?_
    refine aw_callVW_B (c11_deny σ 2) (io_11 (by decide)) ci_11 (by decide) mk_11_deny w_802 w_0 w_800 rfl rfl (Nat.le_of_ble_eq_true rfl) dX11_wins_10 (fun v_22 s_23 => ?_)
    exact aw_zreturn (b := v_22) rfl rfl dX11_wins_13
def F9_copy (σ : Mem) (t0 : Nat) (t1 : Nat) : Option (Unit × Mem) :=
  bnd (sI σ 9 t0 0 0 (gI σ 9 t1 0 0)) fun s_1 => bnd (sI s_1 9 t0 0 1 (gI s_1 9 t1 0 1)) fun s_2 => bnd (sI s_2 9 t0 0 2 (gI s_2 9 t1 0 2)) fun s_3 => bnd (sI s_3 9 t0 0 3 (gI s_3 9 t1 0 3)) fun s_4 => bnd (sI s_4 9 t0 0 4 (gI s_4 9 t1 0 4)) fun s_5 => bnd (sI s_5 9 t0 0 7 (gI s_5 9 t1 0 7)) fun s_6 => bnd (sI s_6 9 t0 0 13 (gI s_6 9 t1 0 13)) fun s_7 => chkC 6 6 0 0 6 <| bnd (sIf s_7 9 t0 1 (va_cpy (gI s_7 9 t1 1) (gI s_7 9 t0 1) (Int32.toNatClampNeg 0) (Int32.toNatClampNeg 0) (Int32.toNatClampNeg 6))) fun s_8 => chkC 6 6 0 0 6 <| bnd (sIf s_8 9 t0 2 (va_cpy (gI s_8 9 t1 2) (gI s_8 9 t0 2) (Int32.toNatClampNeg 0) (Int32.toNatClampNeg 0) (Int32.toNatClampNeg 6))) fun s_9 => chkC 8 8 0 0 8 <| bnd (sLf s_9 9 t0 3 (va_cpy (gL s_9 9 t1 3) (gL s_9 9 t0 3) (Int32.toNatClampNeg 0) (Int32.toNatClampNeg 0) (Int32.toNatClampNeg 8))) fun s_10 => chkC 8 8 0 0 8 <| bnd (sIf s_10 9 t0 4 (va_cpy (gI s_10 9 t1 4) (gI s_10 9 t0 4) (Int32.toNatClampNeg 0) (Int32.toNatClampNeg 0) (Int32.toNatClampNeg 8))) fun s_11 => chkC 8 8 0 0 8 <| bnd (sIf s_11 9 t0 5 (va_cpy (gI s_11 9 t1 5) (gI s_11 9 t0 5) (Int32.toNatClampNeg 0) (Int32.toNatClampNeg 0) (Int32.toNatClampNeg 8))) fun s_12 => chkC 8 8 0 0 8 <| bnd (sIf s_12 9 t0 6 (va_cpy (gI s_12 9 t1 6) (gI s_12 9 t0 6) (Int32.toNatClampNeg 0) (Int32.toNatClampNeg 0) (Int32.toNatClampNeg 8))) fun s_13 => chkC 8 8 0 0 8 <| bnd (sIf s_13 9 t0 7 (va_cpy (gI s_13 9 t1 7) (gI s_13 9 t0 7) (Int32.toNatClampNeg 0) (Int32.toNatClampNeg 0) (Int32.toNatClampNeg 8))) fun s_14 => chkC 6 6 0 0 6 <| bnd (sLf s_14 9 t0 8 (va_cpy (gL s_14 9 t1 8) (gL s_14 9 t0 8) (Int32.toNatClampNeg 0) (Int32.toNatClampNeg 0) (Int32.toNatClampNeg 6))) fun s_15 => chkC 6 6 0 0 6 <| bnd (sIf s_15 9 t0 9 (va_cpy (gI s_15 9 t1 9) (gI s_15 9 t0 9) (Int32.toNatClampNeg 0) (Int32.toNatClampNeg 0) (Int32.toNatClampNeg 6))) fun s_16 => chkC 6 6 0 0 6 <| bnd (sIf s_16 9 t0 10 (va_cpy (gI s_16 9 t1 10) (gI s_16 9 t0 10) (Int32.toNatClampNeg 0) (Int32.toNatClampNeg 0) (Int32.toNatClampNeg 6))) fun s_17 => chkC 6 6 0 0 6 <| bnd (sIf s_17 9 t0 11 (va_cpy (gI s_17 9 t1 11) (gI s_17 9 t0 11) (Int32.toNatClampNeg 0) (Int32.toNatClampNeg 0) (Int32.toNatClampNeg 6))) fun s_18 => chkC 6 6 0 0 6 <| bnd (sIf s_18 9 t0 12 (va_cpy (gI s_18 9 t1 12) (gI s_18 9 t0 12) (Int32.toNatClampNeg 0) (Int32.toNatClampNeg 0) (Int32.toNatClampNeg 6))) fun s_19 => some ((), s_19)
set_option maxRecDepth 20000 in
theorem c9_copy {l : Launch} {D : va_G} {ad : Nat → Nat → Nat → Nat} {cid : Nat → Nat → Nat → ClassId} (σ : Mem) (t0 : Nat) (ht0 : t0 < 5) (t1 : Nat) (ht1 : t1 < 5) : AMF (XC l D ad cid) M9_copy 0 eU [.ref (ad 9 t0 0), .ref (ad 9 t1 0)] σ (F9_copy σ t0 t1) := by
  refine AM.ofW (by decide +kernel) (Nat.le_of_ble_eq_true rfl) (ls := [(0, .ref (ad 9 t0 0)), (1, .ref (ad 9 t1 0))]) rfl ?_
  refine aw_entry ?_
  unfold F9_copy
  refine aw_aload_n 0 dX9_copy_0 rfl rfl ?_
  refine aw_aload_n 1 dX9_copy_1 rfl rfl ?_
  refine aw_getf (fg_9_0 (by omega)) ci_9 (by decide) w_319 dX9_copy_2 ?_
  refine aw_putI (fs_9_0 (by omega)) ci_9 (by decide) rfl rfl w_319 dX9_copy_5 ?_
  refine aw_bndM (fun s_1 => ?_)
  refine aw_aload_n 0 dX9_copy_8 rfl rfl ?_
  refine aw_aload_n 1 dX9_copy_9 rfl rfl ?_
  refine aw_getf (fg_9_1 (by omega)) ci_9 (by decide) w_322 dX9_copy_10 ?_
  refine aw_putI (fs_9_1 (by omega)) ci_9 (by decide) rfl rfl w_322 dX9_copy_13 ?_
  refine aw_bndM (fun s_2 => ?_)
  refine aw_aload_n 0 dX9_copy_16 rfl rfl ?_
  refine aw_aload_n 1 dX9_copy_17 rfl rfl ?_
  refine aw_getf (fg_9_2 (by omega)) ci_9 (by decide) w_324 dX9_copy_18 ?_
  refine aw_putI (fs_9_2 (by omega)) ci_9 (by decide) rfl rfl w_324 dX9_copy_21 ?_
  refine aw_bndM (fun s_3 => ?_)
  refine aw_aload_n 0 dX9_copy_24 rfl rfl ?_
  refine aw_aload_n 1 dX9_copy_25 rfl rfl ?_
  refine aw_getf (fg_9_3 (by omega)) ci_9 (by decide) w_327 dX9_copy_26 ?_
  refine aw_putI (fs_9_3 (by omega)) ci_9 (by decide) rfl rfl w_327 dX9_copy_29 ?_
  refine aw_bndM (fun s_4 => ?_)
  refine aw_aload_n 0 dX9_copy_32 rfl rfl ?_
  refine aw_aload_n 1 dX9_copy_33 rfl rfl ?_
  refine aw_getf (fg_9_4 (by omega)) ci_9 (by decide) w_330 dX9_copy_34 ?_
  refine aw_putI (fs_9_4 (by omega)) ci_9 (by decide) rfl rfl w_330 dX9_copy_37 ?_
  refine aw_bndM (fun s_5 => ?_)
  refine aw_aload_n 0 dX9_copy_40 rfl rfl ?_
  refine aw_aload_n 1 dX9_copy_41 rfl rfl ?_
  refine aw_getf (fg_9_7 (by omega)) ci_9 (by decide) w_336 dX9_copy_42 ?_
  refine aw_putI (fs_9_7 (by omega)) ci_9 (by decide) rfl rfl w_336 dX9_copy_45 ?_
  refine aw_bndM (fun s_6 => ?_)
  refine aw_aload_n 0 dX9_copy_48 rfl rfl ?_
  refine aw_aload_n 1 dX9_copy_49 rfl rfl ?_
  refine aw_getf (fg_9_13 (by omega)) ci_9 (by decide) w_351 dX9_copy_50 ?_
  refine aw_putI (fs_9_13 (by omega)) ci_9 (by decide) rfl rfl w_351 dX9_copy_53 ?_
  refine aw_bndM (fun s_7 => ?_)
  refine aw_aload_n 1 dX9_copy_56 rfl rfl ?_
  refine aw_getf (fg_9_5 (by omega)) ci_9 (by decide) w_332 dX9_copy_57 ?_
  refine aw_iconst 0 dX9_copy_60 (by decide) ?_
  refine aw_aload_n 0 dX9_copy_61 rfl rfl ?_
  refine aw_getf (fg_9_5 (by omega)) ci_9 (by decide) w_332 dX9_copy_62 ?_
  refine aw_iconst 0 dX9_copy_65 (by decide) ?_
  refine aw_bipush 6 dX9_copy_66 (by decide) ?_
  refine aw_copyI (ar_9_1 (by omega)) (ar_9_1 (by omega)) w_1433 w_846 w_845 w_158 (Nat.le_of_ble_eq_true rfl) dX9_copy_68 ?_
  refine aw_bndM (fun s_8 => ?_)
  refine aw_aload_n 1 dX9_copy_71 rfl rfl ?_
  refine aw_getf (fg_9_6 (by omega)) ci_9 (by decide) w_334 dX9_copy_72 ?_
  refine aw_iconst 0 dX9_copy_75 (by decide) ?_
  refine aw_aload_n 0 dX9_copy_76 rfl rfl ?_
  refine aw_getf (fg_9_6 (by omega)) ci_9 (by decide) w_334 dX9_copy_77 ?_
  refine aw_iconst 0 dX9_copy_80 (by decide) ?_
  refine aw_bipush 6 dX9_copy_81 (by decide) ?_
  refine aw_copyI (ar_9_2 (by omega)) (ar_9_2 (by omega)) w_1433 w_846 w_845 w_158 (Nat.le_of_ble_eq_true rfl) dX9_copy_83 ?_
  refine aw_bndM (fun s_9 => ?_)
  refine aw_aload_n 1 dX9_copy_86 rfl rfl ?_
  refine aw_getf (fg_9_8 (by omega)) ci_9 (by decide) w_339 dX9_copy_87 ?_
  refine aw_iconst 0 dX9_copy_90 (by decide) ?_
  refine aw_aload_n 0 dX9_copy_91 rfl rfl ?_
  refine aw_getf (fg_9_8 (by omega)) ci_9 (by decide) w_339 dX9_copy_92 ?_
  refine aw_iconst 0 dX9_copy_95 (by decide) ?_
  refine aw_bipush 8 dX9_copy_96 (by decide) ?_
  refine aw_copyL (ar_9_3 (by omega)) (ar_9_3 (by omega)) w_1433 w_846 w_845 w_158 (Nat.le_of_ble_eq_true rfl) dX9_copy_98 ?_
  refine aw_bndM (fun s_10 => ?_)
  refine aw_aload_n 1 dX9_copy_101 rfl rfl ?_
  refine aw_getf (fg_9_9 (by omega)) ci_9 (by decide) w_340 dX9_copy_102 ?_
  refine aw_iconst 0 dX9_copy_105 (by decide) ?_
  refine aw_aload_n 0 dX9_copy_106 rfl rfl ?_
  refine aw_getf (fg_9_9 (by omega)) ci_9 (by decide) w_340 dX9_copy_107 ?_
  refine aw_iconst 0 dX9_copy_110 (by decide) ?_
  refine aw_bipush 8 dX9_copy_111 (by decide) ?_
  refine aw_copyI (ar_9_4 (by omega)) (ar_9_4 (by omega)) w_1433 w_846 w_845 w_158 (Nat.le_of_ble_eq_true rfl) dX9_copy_113 ?_
  refine aw_bndM (fun s_11 => ?_)
  refine aw_aload_n 1 dX9_copy_116 rfl rfl ?_
  refine aw_getf (fg_9_10 (by omega)) ci_9 (by decide) w_342 dX9_copy_117 ?_
  refine aw_iconst 0 dX9_copy_120 (by decide) ?_
  refine aw_aload_n 0 dX9_copy_121 rfl rfl ?_
  refine aw_getf (fg_9_10 (by omega)) ci_9 (by decide) w_342 dX9_copy_122 ?_
  refine aw_iconst 0 dX9_copy_125 (by decide) ?_
  refine aw_bipush 8 dX9_copy_126 (by decide) ?_
  refine aw_copyI (ar_9_5 (by omega)) (ar_9_5 (by omega)) w_1433 w_846 w_845 w_158 (Nat.le_of_ble_eq_true rfl) dX9_copy_128 ?_
  refine aw_bndM (fun s_12 => ?_)
  refine aw_aload_n 1 dX9_copy_131 rfl rfl ?_
  refine aw_getf (fg_9_11 (by omega)) ci_9 (by decide) w_345 dX9_copy_132 ?_
  refine aw_iconst 0 dX9_copy_135 (by decide) ?_
  refine aw_aload_n 0 dX9_copy_136 rfl rfl ?_
  refine aw_getf (fg_9_11 (by omega)) ci_9 (by decide) w_345 dX9_copy_137 ?_
  refine aw_iconst 0 dX9_copy_140 (by decide) ?_
  refine aw_bipush 8 dX9_copy_141 (by decide) ?_
  refine aw_copyI (ar_9_6 (by omega)) (ar_9_6 (by omega)) w_1433 w_846 w_845 w_158 (Nat.le_of_ble_eq_true rfl) dX9_copy_143 ?_
  refine aw_bndM (fun s_13 => ?_)
  refine aw_aload_n 1 dX9_copy_146 rfl rfl ?_
  refine aw_getf (fg_9_12 (by omega)) ci_9 (by decide) w_348 dX9_copy_147 ?_
  refine aw_iconst 0 dX9_copy_150 (by decide) ?_
  refine aw_aload_n 0 dX9_copy_151 rfl rfl ?_
  refine aw_getf (fg_9_12 (by omega)) ci_9 (by decide) w_348 dX9_copy_152 ?_
  refine aw_iconst 0 dX9_copy_155 (by decide) ?_
  refine aw_bipush 8 dX9_copy_156 (by decide) ?_
  refine aw_copyI (ar_9_7 (by omega)) (ar_9_7 (by omega)) w_1433 w_846 w_845 w_158 (Nat.le_of_ble_eq_true rfl) dX9_copy_158 ?_
  refine aw_bndM (fun s_14 => ?_)
  refine aw_aload_n 1 dX9_copy_161 rfl rfl ?_
  refine aw_getf (fg_9_14 (by omega)) ci_9 (by decide) w_354 dX9_copy_162 ?_
  refine aw_iconst 0 dX9_copy_165 (by decide) ?_
  refine aw_aload_n 0 dX9_copy_166 rfl rfl ?_
  refine aw_getf (fg_9_14 (by omega)) ci_9 (by decide) w_354 dX9_copy_167 ?_
  refine aw_iconst 0 dX9_copy_170 (by decide) ?_
  refine aw_bipush 6 dX9_copy_171 (by decide) ?_
  refine aw_copyL (ar_9_8 (by omega)) (ar_9_8 (by omega)) w_1433 w_846 w_845 w_158 (Nat.le_of_ble_eq_true rfl) dX9_copy_173 ?_
  refine aw_bndM (fun s_15 => ?_)
  refine aw_aload_n 1 dX9_copy_176 rfl rfl ?_
  refine aw_getf (fg_9_15 (by omega)) ci_9 (by decide) w_355 dX9_copy_177 ?_
  refine aw_iconst 0 dX9_copy_180 (by decide) ?_
  refine aw_aload_n 0 dX9_copy_181 rfl rfl ?_
  refine aw_getf (fg_9_15 (by omega)) ci_9 (by decide) w_355 dX9_copy_182 ?_
  refine aw_iconst 0 dX9_copy_185 (by decide) ?_
  refine aw_bipush 6 dX9_copy_186 (by decide) ?_
  refine aw_copyI (ar_9_9 (by omega)) (ar_9_9 (by omega)) w_1433 w_846 w_845 w_158 (Nat.le_of_ble_eq_true rfl) dX9_copy_188 ?_
  refine aw_bndM (fun s_16 => ?_)
  refine aw_aload_n 1 dX9_copy_191 rfl rfl ?_
  refine aw_getf (fg_9_16 (by omega)) ci_9 (by decide) w_358 dX9_copy_192 ?_
  refine aw_iconst 0 dX9_copy_195 (by decide) ?_
  refine aw_aload_n 0 dX9_copy_196 rfl rfl ?_
  refine aw_getf (fg_9_16 (by omega)) ci_9 (by decide) w_358 dX9_copy_197 ?_
  refine aw_iconst 0 dX9_copy_200 (by decide) ?_
  refine aw_bipush 6 dX9_copy_201 (by decide) ?_
  refine aw_copyI (ar_9_10 (by omega)) (ar_9_10 (by omega)) w_1433 w_846 w_845 w_158 (Nat.le_of_ble_eq_true rfl) dX9_copy_203 ?_
  refine aw_bndM (fun s_17 => ?_)
  refine aw_aload_n 1 dX9_copy_206 rfl rfl ?_
  refine aw_getf (fg_9_17 (by omega)) ci_9 (by decide) w_360 dX9_copy_207 ?_
  refine aw_iconst 0 dX9_copy_210 (by decide) ?_
  refine aw_aload_n 0 dX9_copy_211 rfl rfl ?_
  refine aw_getf (fg_9_17 (by omega)) ci_9 (by decide) w_360 dX9_copy_212 ?_
  refine aw_iconst 0 dX9_copy_215 (by decide) ?_
  refine aw_bipush 6 dX9_copy_216 (by decide) ?_
  refine aw_copyI (ar_9_11 (by omega)) (ar_9_11 (by omega)) w_1433 w_846 w_845 w_158 (Nat.le_of_ble_eq_true rfl) dX9_copy_218 ?_
  refine aw_bndM (fun s_18 => ?_)
  refine aw_aload_n 1 dX9_copy_221 rfl rfl ?_
  refine aw_getf (fg_9_18 (by omega)) ci_9 (by decide) w_363 dX9_copy_222 ?_
  refine aw_iconst 0 dX9_copy_225 (by decide) ?_
  refine aw_aload_n 0 dX9_copy_226 rfl rfl ?_
  refine aw_getf (fg_9_18 (by omega)) ci_9 (by decide) w_363 dX9_copy_227 ?_
  refine aw_iconst 0 dX9_copy_230 (by decide) ?_
  refine aw_bipush 6 dX9_copy_231 (by decide) ?_
  refine aw_copyI (ar_9_12 (by omega)) (ar_9_12 (by omega)) w_1433 w_846 w_845 w_158 (Nat.le_of_ble_eq_true rfl) dX9_copy_233 ?_
  refine aw_bndM (fun s_19 => ?_)
  exact aw_return rfl dX9_copy_236
def F5_copy (σ : Mem) (t0 : Nat) (t1 : Nat) : Option (Unit × Mem) :=
  bnd (sB σ 5 t0 0 0 (gB σ 5 t1 0 0)) fun s_1 => bnd (sI s_1 5 t0 0 1 (gI s_1 5 t1 0 1)) fun s_2 => bnd (sI s_2 5 t0 0 2 (gI s_2 5 t1 0 2)) fun s_3 => chkC 60 60 0 0 60 <| bnd (sIf s_3 5 t0 1 (va_cpy (gI s_3 5 t1 1) (gI s_3 5 t0 1) (Int32.toNatClampNeg 0) (Int32.toNatClampNeg 0) (Int32.toNatClampNeg 60))) fun s_4 => chkC 60 60 0 0 60 <| bnd (sIf s_4 5 t0 2 (va_cpy (gI s_4 5 t1 2) (gI s_4 5 t0 2) (Int32.toNatClampNeg 0) (Int32.toNatClampNeg 0) (Int32.toNatClampNeg 60))) fun s_5 => chkC 60 60 0 0 60 <| bnd (sIf s_5 5 t0 3 (va_cpy (gI s_5 5 t1 3) (gI s_5 5 t0 3) (Int32.toNatClampNeg 0) (Int32.toNatClampNeg 0) (Int32.toNatClampNeg 60))) fun s_6 => chkC 60 60 0 0 60 <| bnd (sIf s_6 5 t0 4 (va_cpy (gI s_6 5 t1 4) (gI s_6 5 t0 4) (Int32.toNatClampNeg 0) (Int32.toNatClampNeg 0) (Int32.toNatClampNeg 60))) fun s_7 => chkC 60 60 0 0 60 <| bnd (sIf s_7 5 t0 5 (va_cpy (gI s_7 5 t1 5) (gI s_7 5 t0 5) (Int32.toNatClampNeg 0) (Int32.toNatClampNeg 0) (Int32.toNatClampNeg 60))) fun s_8 => some ((), s_8)
set_option maxRecDepth 20000 in
theorem c5_copy {l : Launch} {D : va_G} {ad : Nat → Nat → Nat → Nat} {cid : Nat → Nat → Nat → ClassId} (σ : Mem) (t0 : Nat) (ht0 : t0 < 5) (t1 : Nat) (ht1 : t1 < 5) : AMF (XC l D ad cid) M5_copy 0 eU [.ref (ad 5 t0 0), .ref (ad 5 t1 0)] σ (F5_copy σ t0 t1) := by
  refine AM.ofW (by decide +kernel) (Nat.le_of_ble_eq_true rfl) (ls := [(0, .ref (ad 5 t0 0)), (1, .ref (ad 5 t1 0))]) rfl ?_
  refine aw_entry ?_
  unfold F5_copy
  refine aw_aload_n 0 dX5_copy_0 rfl rfl ?_
  refine aw_aload_n 1 dX5_copy_1 rfl rfl ?_
  refine aw_getf (fg_5_0 (by omega)) ci_5 (by decide) w_415 dX5_copy_2 ?_
  refine aw_putB (v := (gB σ 5 t1 0 0)) rfl (fs_5_0 (by omega)) ci_5 (by decide) rfl rfl w_415 dX5_copy_5 ?_
  refine aw_bndM (fun s_1 => ?_)
  refine aw_aload_n 0 dX5_copy_8 rfl rfl ?_
  refine aw_aload_n 1 dX5_copy_9 rfl rfl ?_
  refine aw_getf (fg_5_1 (by omega)) ci_5 (by decide) w_417 dX5_copy_10 ?_
  refine aw_putI (fs_5_1 (by omega)) ci_5 (by decide) rfl rfl w_417 dX5_copy_13 ?_
  refine aw_bndM (fun s_2 => ?_)
  refine aw_aload_n 0 dX5_copy_16 rfl rfl ?_
  refine aw_aload_n 1 dX5_copy_17 rfl rfl ?_
  refine aw_getf (fg_5_2 (by omega)) ci_5 (by decide) w_419 dX5_copy_18 ?_
  refine aw_putI (fs_5_2 (by omega)) ci_5 (by decide) rfl rfl w_419 dX5_copy_21 ?_
  refine aw_bndM (fun s_3 => ?_)
  refine aw_aload_n 1 dX5_copy_24 rfl rfl ?_
  refine aw_getf (fg_5_3 (by omega)) ci_5 (by decide) w_421 dX5_copy_25 ?_
  refine aw_iconst 0 dX5_copy_28 (by decide) ?_
  refine aw_aload_n 0 dX5_copy_29 rfl rfl ?_
  refine aw_getf (fg_5_3 (by omega)) ci_5 (by decide) w_421 dX5_copy_30 ?_
  refine aw_iconst 0 dX5_copy_33 (by decide) ?_
  refine aw_bipush 60 dX5_copy_34 (by decide) ?_
  refine aw_copyI (ar_5_1 (by omega)) (ar_5_1 (by omega)) w_1438 w_846 w_845 w_158 (Nat.le_of_ble_eq_true rfl) dX5_copy_36 ?_
  refine aw_bndM (fun s_4 => ?_)
  refine aw_aload_n 1 dX5_copy_39 rfl rfl ?_
  refine aw_getf (fg_5_4 (by omega)) ci_5 (by decide) w_423 dX5_copy_40 ?_
  refine aw_iconst 0 dX5_copy_43 (by decide) ?_
  refine aw_aload_n 0 dX5_copy_44 rfl rfl ?_
  refine aw_getf (fg_5_4 (by omega)) ci_5 (by decide) w_423 dX5_copy_45 ?_
  refine aw_iconst 0 dX5_copy_48 (by decide) ?_
  refine aw_bipush 60 dX5_copy_49 (by decide) ?_
  refine aw_copyI (ar_5_2 (by omega)) (ar_5_2 (by omega)) w_1438 w_846 w_845 w_158 (Nat.le_of_ble_eq_true rfl) dX5_copy_51 ?_
  refine aw_bndM (fun s_5 => ?_)
  refine aw_aload_n 1 dX5_copy_54 rfl rfl ?_
  refine aw_getf (fg_5_5 (by omega)) ci_5 (by decide) w_425 dX5_copy_55 ?_
  refine aw_iconst 0 dX5_copy_58 (by decide) ?_
  refine aw_aload_n 0 dX5_copy_59 rfl rfl ?_
  refine aw_getf (fg_5_5 (by omega)) ci_5 (by decide) w_425 dX5_copy_60 ?_
  refine aw_iconst 0 dX5_copy_63 (by decide) ?_
  refine aw_bipush 60 dX5_copy_64 (by decide) ?_
  refine aw_copyI (ar_5_3 (by omega)) (ar_5_3 (by omega)) w_1438 w_846 w_845 w_158 (Nat.le_of_ble_eq_true rfl) dX5_copy_66 ?_
  refine aw_bndM (fun s_6 => ?_)
  refine aw_aload_n 1 dX5_copy_69 rfl rfl ?_
  refine aw_getf (fg_5_6 (by omega)) ci_5 (by decide) w_427 dX5_copy_70 ?_
  refine aw_iconst 0 dX5_copy_73 (by decide) ?_
  refine aw_aload_n 0 dX5_copy_74 rfl rfl ?_
  refine aw_getf (fg_5_6 (by omega)) ci_5 (by decide) w_427 dX5_copy_75 ?_
  refine aw_iconst 0 dX5_copy_78 (by decide) ?_
  refine aw_bipush 60 dX5_copy_79 (by decide) ?_
  refine aw_copyI (ar_5_4 (by omega)) (ar_5_4 (by omega)) w_1438 w_846 w_845 w_158 (Nat.le_of_ble_eq_true rfl) dX5_copy_81 ?_
  refine aw_bndM (fun s_7 => ?_)
  refine aw_aload_n 1 dX5_copy_84 rfl rfl ?_
  refine aw_getf (fg_5_7 (by omega)) ci_5 (by decide) w_429 dX5_copy_85 ?_
  refine aw_iconst 0 dX5_copy_88 (by decide) ?_
  refine aw_aload_n 0 dX5_copy_89 rfl rfl ?_
  refine aw_getf (fg_5_7 (by omega)) ci_5 (by decide) w_429 dX5_copy_90 ?_
  refine aw_iconst 0 dX5_copy_93 (by decide) ?_
  refine aw_bipush 60 dX5_copy_94 (by decide) ?_
  refine aw_copyI (ar_5_5 (by omega)) (ar_5_5 (by omega)) w_1438 w_846 w_845 w_158 (Nat.le_of_ble_eq_true rfl) dX5_copy_96 ?_
  refine aw_bndM (fun s_8 => ?_)
  exact aw_return rfl dX5_copy_99
def F3_keep (σ : Mem) (t0 : Nat) (t1 : Nat) (t2 : Nat) (t3 : Nat) : Option (Unit × Mem) :=
  bd (F9_copy σ (2 + t0) t1) fun _ s_1 => bd (F5_copy s_1 (2 + t0) t2) fun _ s_2 => bd (F7_copy s_2 (2 + t0) t3) fun _ s_3 => some ((), s_3)
set_option maxRecDepth 20000 in
theorem c3_keep {l : Launch} {D : va_G} {ad : Nat → Nat → Nat → Nat} {cid : Nat → Nat → Nat → ClassId} (σ : Mem) (t0 : Nat) (ht0 : t0 < 3) (t1 : Nat) (ht1 : t1 < 5) (t2 : Nat) (ht2 : t2 < 5) (t3 : Nat) (ht3 : t3 < 5) : AMF (XC l D ad cid) M3_keep 1 eU [.ref (ad 3 t0 0), .ref (ad 9 t1 0), .ref (ad 5 t2 0), .ref (ad 7 t3 0)] σ (F3_keep σ t0 t1 t2 t3) := by
  refine AM.ofW (by decide +kernel) (Nat.le_of_ble_eq_true rfl) (ls := [(0, .ref (ad 3 t0 0)), (1, .ref (ad 9 t1 0)), (2, .ref (ad 5 t2 0)), (3, .ref (ad 7 t3 0))]) rfl ?_
  refine aw_entry ?_
  unfold F3_keep
  refine aw_aload_n 0 dX3_keep_0 rfl rfl ?_
  refine aw_getf (fg_3_0 (by omega)) ci_3 (by decide) w_520 dX3_keep_1 ?_
  refine aw_aload_n 1 dX3_keep_4 rfl rfl ?_
  refine aw_callVW_U (c9_copy σ (2 + t0) (by omega) t1 (by omega)) (io_9 (by omega)) ci_9 (by decide) mk_9_copy w_1430 w_1431 w_1429 rfl rfl (Nat.le_of_ble_eq_true rfl) dX3_keep_5 (fun _ s_1 => ?_)
  refine aw_aload_n 0 dX3_keep_8 rfl rfl ?_
  refine aw_getf (fg_3_1 (by omega)) ci_3 (by decide) w_521 dX3_keep_9 ?_
  refine aw_aload_n 2 dX3_keep_12 rfl rfl ?_
  refine aw_callVW_U (c5_copy s_1 (2 + t0) (by omega) t2 (by omega)) (io_5 (by omega)) ci_5 (by decide) mk_5_copy w_1435 w_1436 w_1434 rfl rfl (Nat.le_of_ble_eq_true rfl) dX3_keep_13 (fun _ s_2 => ?_)
  refine aw_aload_n 0 dX3_keep_16 rfl rfl ?_
  refine aw_getf (fg_3_2 (by omega)) ci_3 (by decide) w_522 dX3_keep_17 ?_
  refine aw_aload_n 3 dX3_keep_20 rfl rfl ?_
  refine aw_callVW_U (c7_copy s_2 (2 + t0) (by omega) t3 (by omega)) (io_7 (by omega)) ci_7 (by decide) mk_7_copy w_1413 w_1414 w_1439 rfl rfl (Nat.le_of_ble_eq_true rfl) dX3_keep_21 (fun _ s_3 => ?_)
  exact aw_return rfl dX3_keep_24
def F11_mark (σ : Mem)  : Option (Int32 × Mem) :=
  if (gI σ 11 0 0 12) < 3 then ((ald 3 id (gI σ 11 0 0 12)).bind fun t_1 => gd 5 (gR σ 11 0 0 5) fun t_2 => gd 5 (gR σ 11 0 0 7) fun t_3 => bd (F3_keep σ t_1 t_2 t_3 0) fun _ s_4 => bnd (sI s_4 11 0 0 12 ((gI s_4 11 0 0 12) + 1)) fun s_5 => bd (F11_answer s_5 (gI s_5 11 0 0 12)) fun v_6 s_7 => some (v_6, s_7)) else (bd (F11_refuse σ 7) fun v_8 s_9 => some (v_8, s_9))
set_option maxRecDepth 20000 in
theorem c11_mark {l : Launch} {D : va_G} {ad : Nat → Nat → Nat → Nat} {cid : Nat → Nat → Nat → ClassId} (σ : Mem)  : AMF (XC l D ad cid) M11_mark 2 eI [.ref (ad 11 0 0)] σ (F11_mark σ) := by
  refine AM.ofW (by decide +kernel) (Nat.le_of_ble_eq_true rfl) (ls := [(0, .ref (ad 11 0 0))]) rfl ?_
  refine aw_entry ?_
  unfold F11_mark
  refine aw_aload_n 0 dX11_mark_0 rfl rfl ?_
  refine aw_getf (fg_11_12 (by decide)) ci_11 (by decide) w_729 dX11_mark_1 ?_
  refine aw_iconst 3 dX11_mark_4 (by decide) ?_
  refine aw_icmp_lt 15 dX11_mark_5 (by decide) ?_ ?_
  · refine aw_aload_n 0 dX11_mark_15 rfl rfl ?_
    refine aw_getf (fg_11_11 (by decide)) ci_11 (by decide) w_728 dX11_mark_16 ?_
    refine aw_aload_n 0 dX11_mark_19 rfl rfl ?_
    refine aw_getf (fg_11_12 (by decide)) ci_11 (by decide) w_729 dX11_mark_20 ?_
    refine aw_aaload (ar_11_2 (by decide)) dX11_mark_23 (fun t_1 ht_1 => ?_)
    refine aw_aload_n 0 dX11_mark_24 rfl rfl ?_
    refine aw_getf (fg_11_5 (by decide)) ci_11 (by decide) w_722 dX11_mark_25 ?_
    refine aw_gd (n := 5) (fun t_2 ht_2 => ?_)
    refine aw_aload_n 0 dX11_mark_28 rfl rfl ?_
    refine aw_getf (fg_11_7 (by decide)) ci_11 (by decide) w_724 dX11_mark_29 ?_
    refine aw_gd (n := 5) (fun t_3 ht_3 => ?_)
    refine aw_aload_n 0 dX11_mark_32 rfl rfl ?_
    refine aw_getf (fg_11_9 (by decide)) ci_11 (by decide) w_726 dX11_mark_33 ?_
    refine aw_callVW_U (c3_keep σ t_1 (by omega) t_2 (by omega) t_3 (by omega) 0 (by decide)) (io_3 (by omega)) ci_3 (by decide) mk_3_keep w_1426 w_1427 w_1425 rfl rfl (Nat.le_of_ble_eq_true rfl) dX11_mark_36 (fun _ s_4 => ?_)
    refine aw_aload_n 0 dX11_mark_39 rfl rfl ?_
    refine aw_dup dX11_mark_40 rfl ?_
    refine aw_getf (fg_11_12 (by decide)) ci_11 (by decide) w_729 dX11_mark_41 ?_
    refine aw_iconst 1 dX11_mark_44 (by decide) ?_
    refine aw_iadd dX11_mark_45 ?_
    refine aw_putI (fs_11_12 (by decide)) ci_11 (by decide) rfl rfl w_729 dX11_mark_46 ?_
    refine aw_bndM (fun s_5 => ?_)
    refine aw_aload_n 0 dX11_mark_49 rfl rfl ?_
    refine aw_aload_n 0 dX11_mark_50 rfl rfl ?_
    refine aw_getf (fg_11_12 (by decide)) ci_11 (by decide) w_729 dX11_mark_51 ?_
    refine aw_callVW_I (c11_answer s_5 (gI s_5 11 0 0 12)) (io_11 (by decide)) ci_11 (by decide) mk_11_answer w_975 w_15 w_973 rfl rfl (Nat.le_of_ble_eq_true rfl) dX11_mark_54 (fun v_6 s_7 => ?_)
    exact aw_ireturn rfl dX11_mark_57
  · refine aw_aload_n 0 dX11_mark_8 rfl rfl ?_
    refine aw_bipush 7 dX11_mark_9 (by decide) ?_
    refine aw_callVW_I (c11_refuse σ 7) (io_11 (by decide)) ci_11 (by decide) mk_11_refuse w_838 w_3 w_836 rfl rfl (Nat.le_of_ble_eq_true rfl) dX11_mark_11 (fun v_8 s_9 => ?_)
    exact aw_ireturn rfl dX11_mark_14
def F3_giveBack (σ : Mem) (t0 : Nat) (t1 : Nat) (t2 : Nat) (t3 : Nat) : Option (Unit × Mem) :=
  bd (F9_copy σ t1 (2 + t0)) fun _ s_1 => bd (F5_copy s_1 t2 (2 + t0)) fun _ s_2 => bd (F7_copy s_2 t3 (2 + t0)) fun _ s_3 => some ((), s_3)
set_option maxRecDepth 20000 in
theorem c3_giveBack {l : Launch} {D : va_G} {ad : Nat → Nat → Nat → Nat} {cid : Nat → Nat → Nat → ClassId} (σ : Mem) (t0 : Nat) (ht0 : t0 < 3) (t1 : Nat) (ht1 : t1 < 5) (t2 : Nat) (ht2 : t2 < 5) (t3 : Nat) (ht3 : t3 < 5) : AMF (XC l D ad cid) M3_giveBack 1 eU [.ref (ad 3 t0 0), .ref (ad 9 t1 0), .ref (ad 5 t2 0), .ref (ad 7 t3 0)] σ (F3_giveBack σ t0 t1 t2 t3) := by
  refine AM.ofW (by decide +kernel) (Nat.le_of_ble_eq_true rfl) (ls := [(0, .ref (ad 3 t0 0)), (1, .ref (ad 9 t1 0)), (2, .ref (ad 5 t2 0)), (3, .ref (ad 7 t3 0))]) rfl ?_
  refine aw_entry ?_
  unfold F3_giveBack
  refine aw_aload_n 1 dX3_giveBack_0 rfl rfl ?_
  refine aw_aload_n 0 dX3_giveBack_1 rfl rfl ?_
  refine aw_getf (fg_3_0 (by omega)) ci_3 (by decide) w_520 dX3_giveBack_2 ?_
  refine aw_callVW_U (c9_copy σ t1 (by omega) (2 + t0) (by omega)) (io_9 (by omega)) ci_9 (by decide) mk_9_copy w_1430 w_1431 w_1429 rfl rfl (Nat.le_of_ble_eq_true rfl) dX3_giveBack_5 (fun _ s_1 => ?_)
  refine aw_aload_n 2 dX3_giveBack_8 rfl rfl ?_
  refine aw_aload_n 0 dX3_giveBack_9 rfl rfl ?_
  refine aw_getf (fg_3_1 (by omega)) ci_3 (by decide) w_521 dX3_giveBack_10 ?_
  refine aw_callVW_U (c5_copy s_1 t2 (by omega) (2 + t0) (by omega)) (io_5 (by omega)) ci_5 (by decide) mk_5_copy w_1435 w_1436 w_1434 rfl rfl (Nat.le_of_ble_eq_true rfl) dX3_giveBack_13 (fun _ s_2 => ?_)
  refine aw_aload_n 3 dX3_giveBack_16 rfl rfl ?_
  refine aw_aload_n 0 dX3_giveBack_17 rfl rfl ?_
  refine aw_getf (fg_3_2 (by omega)) ci_3 (by decide) w_522 dX3_giveBack_18 ?_
  refine aw_callVW_U (c7_copy s_2 t3 (by omega) (2 + t0) (by omega)) (io_7 (by omega)) ci_7 (by decide) mk_7_copy w_1413 w_1414 w_1439 rfl rfl (Nat.le_of_ble_eq_true rfl) dX3_giveBack_21 (fun _ s_3 => ?_)
  exact aw_return rfl dX3_giveBack_24
def F11_back (σ : Mem)  : Option (Int32 × Mem) :=
  if 0 < (gI σ 11 0 0 12) then (bnd (sI σ 11 0 0 12 ((gI σ 11 0 0 12) - 1)) fun s_1 => (ald 3 id (gI s_1 11 0 0 12)).bind fun t_2 => gd 5 (gR s_1 11 0 0 5) fun t_3 => gd 5 (gR s_1 11 0 0 7) fun t_4 => bd (F3_giveBack s_1 t_2 t_3 t_4 0) fun _ s_5 => bd (F11_answer s_5 (gI s_5 11 0 0 12)) fun v_6 s_7 => some (v_6, s_7)) else (bd (F11_refuse σ 8) fun v_8 s_9 => some (v_8, s_9))
set_option maxRecDepth 20000 in
theorem c11_back {l : Launch} {D : va_G} {ad : Nat → Nat → Nat → Nat} {cid : Nat → Nat → Nat → ClassId} (σ : Mem)  : AMF (XC l D ad cid) M11_back 2 eI [.ref (ad 11 0 0)] σ (F11_back σ) := by
  refine AM.ofW (by decide +kernel) (Nat.le_of_ble_eq_true rfl) (ls := [(0, .ref (ad 11 0 0))]) rfl ?_
  refine aw_entry ?_
  unfold F11_back
  refine aw_aload_n 0 dX11_back_0 rfl rfl ?_
  refine aw_getf (fg_11_12 (by decide)) ci_11 (by decide) w_729 dX11_back_1 ?_
  refine aw_if_gt 14 dX11_back_4 (by decide) ?_ ?_
  · refine aw_aload_n 0 dX11_back_14 rfl rfl ?_
    refine aw_dup dX11_back_15 rfl ?_
    refine aw_getf (fg_11_12 (by decide)) ci_11 (by decide) w_729 dX11_back_16 ?_
    refine aw_iconst 1 dX11_back_19 (by decide) ?_
    refine aw_isub dX11_back_20 ?_
    refine aw_putI (fs_11_12 (by decide)) ci_11 (by decide) rfl rfl w_729 dX11_back_21 ?_
    refine aw_bndM (fun s_1 => ?_)
    refine aw_aload_n 0 dX11_back_24 rfl rfl ?_
    refine aw_getf (fg_11_11 (by decide)) ci_11 (by decide) w_728 dX11_back_25 ?_
    refine aw_aload_n 0 dX11_back_28 rfl rfl ?_
    refine aw_getf (fg_11_12 (by decide)) ci_11 (by decide) w_729 dX11_back_29 ?_
    refine aw_aaload (ar_11_2 (by decide)) dX11_back_32 (fun t_2 ht_2 => ?_)
    refine aw_aload_n 0 dX11_back_33 rfl rfl ?_
    refine aw_getf (fg_11_5 (by decide)) ci_11 (by decide) w_722 dX11_back_34 ?_
    refine aw_gd (n := 5) (fun t_3 ht_3 => ?_)
    refine aw_aload_n 0 dX11_back_37 rfl rfl ?_
    refine aw_getf (fg_11_7 (by decide)) ci_11 (by decide) w_724 dX11_back_38 ?_
    refine aw_gd (n := 5) (fun t_4 ht_4 => ?_)
    refine aw_aload_n 0 dX11_back_41 rfl rfl ?_
    refine aw_getf (fg_11_9 (by decide)) ci_11 (by decide) w_726 dX11_back_42 ?_
    refine aw_callVW_U (c3_giveBack s_1 t_2 (by omega) t_3 (by omega) t_4 (by omega) 0 (by decide)) (io_3 (by omega)) ci_3 (by decide) mk_3_giveBack w_1445 w_1446 w_1444 rfl rfl (Nat.le_of_ble_eq_true rfl) dX11_back_45 (fun _ s_5 => ?_)
    refine aw_aload_n 0 dX11_back_48 rfl rfl ?_
    refine aw_aload_n 0 dX11_back_49 rfl rfl ?_
    refine aw_getf (fg_11_12 (by decide)) ci_11 (by decide) w_729 dX11_back_50 ?_
    refine aw_callVW_I (c11_answer s_5 (gI s_5 11 0 0 12)) (io_11 (by decide)) ci_11 (by decide) mk_11_answer w_975 w_15 w_973 rfl rfl (Nat.le_of_ble_eq_true rfl) dX11_back_53 (fun v_6 s_7 => ?_)
    exact aw_ireturn rfl dX11_back_56
  · refine aw_aload_n 0 dX11_back_7 rfl rfl ?_
    refine aw_bipush 8 dX11_back_8 (by decide) ?_
    refine aw_callVW_I (c11_refuse σ 8) (io_11 (by decide)) ci_11 (by decide) mk_11_refuse w_838 w_3 w_836 rfl rfl (Nat.le_of_ble_eq_true rfl) dX11_back_10 (fun v_8 s_9 => ?_)
    exact aw_ireturn rfl dX11_back_13
