def F9_fitOf (σ : Mem) (t0 : Nat) (x1 : Int32) : Option Int32 :=
  (ald 8 (gI σ 9 t0 4) x1).bind fun v_1 => some ((gI σ 9 t0 0 1) - v_1)
set_option maxRecDepth 20000 in
theorem c9_fitOf {l : Launch} {D : va_G} {ad : Nat → Nat → Nat → Nat} {cid : Nat → Nat → Nat → ClassId} (σ : Mem) (t0 : Nat) (ht0 : t0 < 5) (x1 : Int32) : AMF (XC l D ad cid) M9_fitOf 0 eI [.ref (ad 9 t0 0), .int x1] σ (oM σ (F9_fitOf σ t0 x1)) := by
  refine AM.ofW (by decide +kernel) (Nat.le_of_ble_eq_true rfl) (ls := [(0, .ref (ad 9 t0 0)), (1, .int x1)]) rfl ?_
  refine aw_entryO ?_
  unfold F9_fitOf
  refine aw_aload_n 0 dX9_fitOf_0 rfl rfl ?_
  refine aw_getf (fg_9_1 (by omega)) ci_9 (by decide) w_322 dX9_fitOf_1 ?_
  refine aw_aload_n 0 dX9_fitOf_4 rfl rfl ?_
  refine aw_getf (fg_9_9 (by omega)) ci_9 (by decide) w_340 dX9_fitOf_5 ?_
  refine aw_iload_n 1 dX9_fitOf_8 rfl rfl ?_
  refine aw_iaload (ar_9_4 (by omega)) dX9_fitOf_9 (fun v_1 => ?_)
  refine aw_isub dX9_fitOf_10 ?_
  exact aw_ireturn rfl dX9_fitOf_11
def F9_rattles (σ : Mem) (t0 : Nat) (x1 : Int32) : Option Bool :=
  (F9_fitOf σ t0 x1).bind fun v_1 => if v_1 < 3 then (some false) else (some true)
set_option maxRecDepth 20000 in
theorem c9_rattles {l : Launch} {D : va_G} {ad : Nat → Nat → Nat → Nat} {cid : Nat → Nat → Nat → ClassId} (σ : Mem) (t0 : Nat) (ht0 : t0 < 5) (x1 : Int32) : AMF (XC l D ad cid) M9_rattles 1 eB [.ref (ad 9 t0 0), .int x1] σ (oM σ (F9_rattles σ t0 x1)) := by
  refine AM.ofW (by decide +kernel) (Nat.le_of_ble_eq_true rfl) (ls := [(0, .ref (ad 9 t0 0)), (1, .int x1)]) rfl ?_
  refine aw_entryO ?_
  unfold F9_rattles
  refine aw_aload_n 0 dX9_rattles_0 rfl rfl ?_
  refine aw_iload_n 1 dX9_rattles_1 rfl rfl ?_
  refine aw_callVO_I (c9_fitOf σ t0 (by omega) x1) (io_9 (by omega)) ci_9 (by decide) mk_9_fitOf w_1050 w_1051 w_1057 rfl rfl (Nat.le_of_ble_eq_true rfl) dX9_rattles_2 (fun v_1 => ?_)
  refine aw_iconst 3 dX9_rattles_5 (by decide) ?_
  refine aw_icmp_lt 13 dX9_rattles_6 (by decide) ?_ ?_
  · refine aw_iconst 0 dX9_rattles_13 (by decide) ?_
    exact aw_zreturn (b := false) rfl rfl dX9_rattles_14
  · refine aw_iconst 1 dX9_rattles_9 (by decide) ?_
    refine aw_goto 14 dX9_rattles_10 (by decide) ?_
    exact aw_zreturn (b := true) rfl rfl dX9_rattles_14
def F11_pea_p41 (σ : Mem) (x1 : Int32) (x2 : Int32) : Option (Int32 × Mem) :=
  if x2 = 0 then (gd 5 (gR σ 11 0 0 5) fun t_3 => (ald 8 (gI σ 9 t_3 4) x1).bind fun v_4 => bd (F11_answer σ v_4) fun v_5 s_6 => some (v_5, s_6)) else if x2 = 1 then (gd 5 (gR σ 11 0 0 5) fun t_8 => (ald 8 (gI σ 9 t_8 5) x1).bind fun v_9 => bd (F11_answer σ v_9) fun v_10 s_11 => some (v_10, s_11)) else if x2 = 2 then (gd 5 (gR σ 11 0 0 5) fun t_13 => (ald 8 (gI σ 9 t_13 6) x1).bind fun v_14 => bd (F11_answer σ v_14) fun v_15 s_16 => some (v_15, s_16)) else if x2 = 3 then (gd 5 (gR σ 11 0 0 5) fun t_18 => (ald 8 (gI σ 9 t_18 7) x1).bind fun v_19 => bd (F11_answer σ v_19) fun v_20 s_21 => some (v_20, s_21)) else if x2 = 4 then (gd 5 (gR σ 11 0 0 5) fun t_23 => (F9_fitOf σ t_23 x1).bind fun v_24 => bd (F11_answer σ v_24) fun v_25 s_26 => some (v_25, s_26)) else if x2 = 5 then (gd 5 (gR σ 11 0 0 5) fun t_28 => (F9_rattles σ t_28 x1).bind fun v_29 => if v_29 = true then (bd (F11_answer σ 1) fun v_32 s_33 => some (v_32, s_33)) else (bd (F11_answer σ 0) fun v_30 s_31 => some (v_30, s_31))) else (bd (F11_refuse σ 5) fun v_34 s_35 => some (v_34, s_35))
set_option maxRecDepth 20000 in
theorem c11_pea_p41 {l : Launch} {D : va_G} {ad : Nat → Nat → Nat → Nat} {cid : Nat → Nat → Nat → ClassId} (σ : Mem) (x1 : Int32) (x2 : Int32) : AW (XC l D ad cid) M11_pea 2 eI [(0, .ref (ad 11 0 0)), (1, .int x1), (2, .int x2)] 41 [] σ ((F11_pea_p41 σ x1 x2).bind some) := by
  unfold F11_pea_p41
  refine aw_iload_n 2 dX11_pea_41 rfl rfl ?_
  refine aw_case (c := 0) (fun h_2 => ?_) (fun h_2 => ?_)
  · refine aw_tabIn 80 h_2 dX11_pea_42 (by decide) (by decide) rfl (by decide) ?_
    refine aw_aload_n 0 dX11_pea_80 rfl rfl ?_
    refine aw_aload_n 0 dX11_pea_81 rfl rfl ?_
    refine aw_getf (fg_11_5 (by decide)) ci_11 (by decide) w_722 dX11_pea_82 ?_
    refine aw_gd (n := 5) (fun t_3 ht_3 => ?_)
    refine aw_getf (fg_9_9 (by omega)) ci_9 (by decide) w_341 dX11_pea_85 ?_
    refine aw_iload_n 1 dX11_pea_88 rfl rfl ?_
    refine aw_iaload (ar_9_4 (by omega)) dX11_pea_89 (fun v_4 => ?_)
    refine aw_callVW_I (c11_answer σ v_4) (io_11 (by decide)) ci_11 (by decide) mk_11_answer w_975 w_15 w_973 rfl rfl (Nat.le_of_ble_eq_true rfl) dX11_pea_90 (fun v_5 s_6 => ?_)
    exact aw_ireturn rfl dX11_pea_93
  refine aw_case (c := 1) (fun h_7 => ?_) (fun h_7 => ?_)
  · refine aw_tabIn 94 h_7 dX11_pea_42 (by decide) (by decide) rfl (by decide) ?_
    refine aw_aload_n 0 dX11_pea_94 rfl rfl ?_
    refine aw_aload_n 0 dX11_pea_95 rfl rfl ?_
    refine aw_getf (fg_11_5 (by decide)) ci_11 (by decide) w_722 dX11_pea_96 ?_
    refine aw_gd (n := 5) (fun t_8 ht_8 => ?_)
    refine aw_getf (fg_9_10 (by omega)) ci_9 (by decide) w_344 dX11_pea_99 ?_
    refine aw_iload_n 1 dX11_pea_102 rfl rfl ?_
    refine aw_iaload (ar_9_5 (by omega)) dX11_pea_103 (fun v_9 => ?_)
    refine aw_callVW_I (c11_answer σ v_9) (io_11 (by decide)) ci_11 (by decide) mk_11_answer w_975 w_15 w_973 rfl rfl (Nat.le_of_ble_eq_true rfl) dX11_pea_104 (fun v_10 s_11 => ?_)
    exact aw_ireturn rfl dX11_pea_107
  refine aw_case (c := 2) (fun h_12 => ?_) (fun h_12 => ?_)
  · refine aw_tabIn 108 h_12 dX11_pea_42 (by decide) (by decide) rfl (by decide) ?_
    refine aw_aload_n 0 dX11_pea_108 rfl rfl ?_
    refine aw_aload_n 0 dX11_pea_109 rfl rfl ?_
    refine aw_getf (fg_11_5 (by decide)) ci_11 (by decide) w_722 dX11_pea_110 ?_
    refine aw_gd (n := 5) (fun t_13 ht_13 => ?_)
    refine aw_getf (fg_9_11 (by omega)) ci_9 (by decide) w_347 dX11_pea_113 ?_
    refine aw_iload_n 1 dX11_pea_116 rfl rfl ?_
    refine aw_iaload (ar_9_6 (by omega)) dX11_pea_117 (fun v_14 => ?_)
    refine aw_callVW_I (c11_answer σ v_14) (io_11 (by decide)) ci_11 (by decide) mk_11_answer w_975 w_15 w_973 rfl rfl (Nat.le_of_ble_eq_true rfl) dX11_pea_118 (fun v_15 s_16 => ?_)
    exact aw_ireturn rfl dX11_pea_121
  refine aw_case (c := 3) (fun h_17 => ?_) (fun h_17 => ?_)
  · refine aw_tabIn 122 h_17 dX11_pea_42 (by decide) (by decide) rfl (by decide) ?_
    refine aw_aload_n 0 dX11_pea_122 rfl rfl ?_
    refine aw_aload_n 0 dX11_pea_123 rfl rfl ?_
    refine aw_getf (fg_11_5 (by decide)) ci_11 (by decide) w_722 dX11_pea_124 ?_
    refine aw_gd (n := 5) (fun t_18 ht_18 => ?_)
    refine aw_getf (fg_9_12 (by omega)) ci_9 (by decide) w_350 dX11_pea_127 ?_
    refine aw_iload_n 1 dX11_pea_130 rfl rfl ?_
    refine aw_iaload (ar_9_7 (by omega)) dX11_pea_131 (fun v_19 => ?_)
    refine aw_callVW_I (c11_answer σ v_19) (io_11 (by decide)) ci_11 (by decide) mk_11_answer w_975 w_15 w_973 rfl rfl (Nat.le_of_ble_eq_true rfl) dX11_pea_132 (fun v_20 s_21 => ?_)
    exact aw_ireturn rfl dX11_pea_135
  refine aw_case (c := 4) (fun h_22 => ?_) (fun h_22 => ?_)
  · refine aw_tabIn 136 h_22 dX11_pea_42 (by decide) (by decide) rfl (by decide) ?_
    refine aw_aload_n 0 dX11_pea_136 rfl rfl ?_
    refine aw_aload_n 0 dX11_pea_137 rfl rfl ?_
    refine aw_getf (fg_11_5 (by decide)) ci_11 (by decide) w_722 dX11_pea_138 ?_
    refine aw_gd (n := 5) (fun t_23 ht_23 => ?_)
    refine aw_iload_n 1 dX11_pea_141 rfl rfl ?_
    refine aw_callVO_I (c9_fitOf σ t_23 (by omega) x1) (io_9 (by omega)) ci_9 (by decide) mk_9_fitOf w_1050 w_1051 w_1049 rfl rfl (Nat.le_of_ble_eq_true rfl) dX11_pea_142 (fun v_24 => ?_)
    refine aw_callVW_I (c11_answer σ v_24) (io_11 (by decide)) ci_11 (by decide) mk_11_answer w_975 w_15 w_973 rfl rfl (Nat.le_of_ble_eq_true rfl) dX11_pea_145 (fun v_25 s_26 => ?_)
    exact aw_ireturn rfl dX11_pea_148
  refine aw_case (c := 5) (fun h_27 => ?_) (fun h_27 => ?_)
  · refine aw_tabIn 149 h_27 dX11_pea_42 (by decide) (by decide) rfl (by decide) ?_
    refine aw_aload_n 0 dX11_pea_149 rfl rfl ?_
    refine aw_aload_n 0 dX11_pea_150 rfl rfl ?_
    refine aw_getf (fg_11_5 (by decide)) ci_11 (by decide) w_722 dX11_pea_151 ?_
    refine aw_gd (n := 5) (fun t_28 ht_28 => ?_)
    refine aw_iload_n 1 dX11_pea_154 rfl rfl ?_
    refine aw_callVO_B (c9_rattles σ t_28 (by omega) x1) (io_9 (by omega)) ci_9 (by decide) mk_9_rattles w_1054 w_1055 w_1053 rfl rfl (Nat.le_of_ble_eq_true rfl) dX11_pea_155 (fun v_29 => ?_)
    refine aw_bif_eq 165 dX11_pea_158 (by decide) ?_ ?_
    · refine aw_iconst 0 dX11_pea_165 (by decide) ?_
      refine aw_callVW_I (c11_answer σ 0) (io_11 (by decide)) ci_11 (by decide) mk_11_answer w_975 w_15 w_973 rfl rfl (Nat.le_of_ble_eq_true rfl) dX11_pea_166 (fun v_30 s_31 => ?_)
      exact aw_ireturn rfl dX11_pea_169
    · refine aw_iconst 1 dX11_pea_161 (by decide) ?_
      refine aw_goto 166 dX11_pea_162 (by decide) ?_
      refine aw_callVW_I (c11_answer σ 1) (io_11 (by decide)) ci_11 (by decide) mk_11_answer w_975 w_15 w_973 rfl rfl (Nat.le_of_ble_eq_true rfl) dX11_pea_166 (fun v_32 s_33 => ?_)
      exact aw_ireturn rfl dX11_pea_169
  refine aw_tabOut 170 dX11_pea_42 (by have eh_2 : x2.toInt ≠ 0 := ne_toInt h_2; have eh_7 : x2.toInt ≠ 1 := ne_toInt h_7; have eh_12 : x2.toInt ≠ 2 := ne_toInt h_12; have eh_17 : x2.toInt ≠ 3 := ne_toInt h_17; have eh_22 : x2.toInt ≠ 4 := ne_toInt h_22; have eh_27 : x2.toInt ≠ 5 := ne_toInt h_27; omega) (by decide) ?_
  refine aw_aload_n 0 dX11_pea_170 rfl rfl ?_
  refine aw_iconst 5 dX11_pea_171 (by decide) ?_
  refine aw_callVW_I (c11_refuse σ 5) (io_11 (by decide)) ci_11 (by decide) mk_11_refuse w_838 w_3 w_836 rfl rfl (Nat.le_of_ble_eq_true rfl) dX11_pea_172 (fun v_34 s_35 => ?_)
  exact aw_ireturn rfl dX11_pea_175
def F11_pea (σ : Mem) (x1 : Int32) (x2 : Int32) : Option (Int32 × Mem) :=
  (F11_isPea σ x1).bind fun v_1 => if v_1 = true then (if (F11_within x2 4 5) = true then (gd 5 (gR σ 11 0 0 5) fun t_36 => (F9_fitOf σ t_36 x1).bind fun v_37 => if 0 ≤ v_37 then (F11_pea_p41 σ x1 x2) else (bd (F11_refuse σ 9) fun v_38 s_39 => some (v_38, s_39))) else (F11_pea_p41 σ x1 x2)) else (bd (F11_refuse σ 2) fun v_40 s_41 => some (v_40, s_41))
set_option maxRecDepth 20000 in
theorem c11_pea {l : Launch} {D : va_G} {ad : Nat → Nat → Nat → Nat} {cid : Nat → Nat → Nat → ClassId} (σ : Mem) (x1 : Int32) (x2 : Int32) : AMF (XC l D ad cid) M11_pea 2 eI [.ref (ad 11 0 0), .int x1, .int x2] σ (F11_pea σ x1 x2) := by
  refine AM.ofW (by decide +kernel) (Nat.le_of_ble_eq_true rfl) (ls := [(0, .ref (ad 11 0 0)), (1, .int x1), (2, .int x2)]) rfl ?_
  refine aw_entry ?_
  unfold F11_pea
  refine aw_aload_n 0 dX11_pea_0 rfl rfl ?_
  refine aw_iload_n 1 dX11_pea_1 rfl rfl ?_
  refine aw_callVO_B (c11_isPea σ x1) (io_11 (by decide)) ci_11 (by decide) mk_11_isPea w_1047 w_22 w_1045 rfl rfl (Nat.le_of_ble_eq_true rfl) dX11_pea_2 (fun v_1 => ?_)
  refine aw_bif_ne 14 dX11_pea_5 (by decide) ?_ ?_
  · refine aw_iload_n 2 dX11_pea_14 rfl rfl ?_
    refine aw_iconst 4 dX11_pea_15 (by decide) ?_
    refine aw_iconst 5 dX11_pea_16 (by decide) ?_
    refine aw_callST_B (c11_within σ x2 4 5) (by decide) mk_11_within w_798 w_797 rfl rfl (Nat.le_of_ble_eq_true rfl) dX11_pea_17 ?_
    refine aw_bif_eq 41 dX11_pea_20 (by decide) ?_ ?_
    · exact c11_pea_p41 σ x1 x2
    · refine aw_aload_n 0 dX11_pea_23 rfl rfl ?_
      refine aw_getf (fg_11_5 (by decide)) ci_11 (by decide) w_722 dX11_pea_24 ?_
      refine aw_gd (n := 5) (fun t_36 ht_36 => ?_)
      refine aw_iload_n 1 dX11_pea_27 rfl rfl ?_
      refine aw_callVO_I (c9_fitOf σ t_36 (by omega) x1) (io_9 (by omega)) ci_9 (by decide) mk_9_fitOf w_1050 w_1051 w_1049 rfl rfl (Nat.le_of_ble_eq_true rfl) dX11_pea_28 (fun v_37 => ?_)
      refine aw_if_ge 41 dX11_pea_31 (by decide) ?_ ?_
      · exact c11_pea_p41 σ x1 x2
      · refine aw_aload_n 0 dX11_pea_34 rfl rfl ?_
        refine aw_bipush 9 dX11_pea_35 (by decide) ?_
        refine aw_callVW_I (c11_refuse σ 9) (io_11 (by decide)) ci_11 (by decide) mk_11_refuse w_838 w_3 w_836 rfl rfl (Nat.le_of_ble_eq_true rfl) dX11_pea_37 (fun v_38 s_39 => ?_)
        exact aw_ireturn rfl dX11_pea_40
  · refine aw_aload_n 0 dX11_pea_8 rfl rfl ?_
    refine aw_iconst 2 dX11_pea_9 (by decide) ?_
    refine aw_callVW_I (c11_refuse σ 2) (io_11 (by decide)) ci_11 (by decide) mk_11_refuse w_838 w_3 w_836 rfl rfl (Nat.le_of_ble_eq_true rfl) dX11_pea_10 (fun v_40 s_41 => ?_)
    exact aw_ireturn rfl dX11_pea_13
def F11_isShooter (σ : Mem) (x1 : Int32) : Option Bool :=
  gd 5 (gR σ 11 0 0 5) fun t_1 => some (F11_within x1 0 ((gI σ 9 t_1 0 13) - 1))
set_option maxRecDepth 20000 in
theorem c11_isShooter {l : Launch} {D : va_G} {ad : Nat → Nat → Nat → Nat} {cid : Nat → Nat → Nat → ClassId} (σ : Mem) (x1 : Int32) : AMF (XC l D ad cid) M11_isShooter 1 eB [.ref (ad 11 0 0), .int x1] σ (oM σ (F11_isShooter σ x1)) := by
  refine AM.ofW (by decide +kernel) (Nat.le_of_ble_eq_true rfl) (ls := [(0, .ref (ad 11 0 0)), (1, .int x1)]) rfl ?_
  refine aw_entryO ?_
  unfold F11_isShooter
  refine aw_iload_n 1 dX11_isShooter_0 rfl rfl ?_
  refine aw_iconst 0 dX11_isShooter_1 (by decide) ?_
  refine aw_aload_n 0 dX11_isShooter_2 rfl rfl ?_
  refine aw_getf (fg_11_5 (by decide)) ci_11 (by decide) w_722 dX11_isShooter_3 ?_
  refine aw_gd (n := 5) (fun t_1 ht_1 => ?_)
  refine aw_getf (fg_9_13 (by omega)) ci_9 (by decide) w_353 dX11_isShooter_6 ?_
  refine aw_iconst 1 dX11_isShooter_9 (by decide) ?_
  refine aw_isub dX11_isShooter_10 ?_
  refine aw_callST_B (c11_within σ x1 0 ((gI σ 9 t_1 0 13) - 1)) (by decide) mk_11_within w_798 w_797 rfl rfl (Nat.le_of_ble_eq_true rfl) dX11_isShooter_11 ?_
  exact aw_zreturn (b := (F11_within x1 0 ((gI σ 9 t_1 0 13) - 1))) rfl rfl dX11_isShooter_14
def F7_gather_p72 (rc : Mem → Int32 → Option ((Unit) × Mem)) (σ : Mem) (t0 : Nat) (x1 : Int32) (x2 : Int32) (x3 : Int32) (z4 : Bool) (q0 : Bool) : Option ((Unit) × Mem) :=
  if z4 = true then (if q0 = true then (bnd (sI σ 7 t0 0 7 ((gI σ 7 t0 0 7) + 1)) fun s_5 => (ald 60 (gI s_5 7 t0 1) x3).bind fun v_6 => bnd (sL s_5 7 t0 0 8 ((gL s_5 7 t0 0 8) + (Int32.toInt64 v_6))) fun s_7 => (ald 60 (gI s_7 7 t0 2) x3).bind fun v_8 => bnd (sL s_7 7 t0 0 9 ((gL s_7 7 t0 0 9) + (Int32.toInt64 v_8))) fun s_9 => (ald 60 (gI s_9 7 t0 1) x3).bind fun v_10 => (ald 60 (gI s_9 7 t0 1) x3).bind fun v_11 => (ald 60 (gI s_9 7 t0 2) x3).bind fun v_12 => (ald 60 (gI s_9 7 t0 2) x3).bind fun v_13 => bnd (sL s_9 7 t0 0 10 ((gL s_9 7 t0 0 10) + (Int32.toInt64 ((v_10 * v_11) + (v_12 * v_13))))) fun s_14 => rc s_14 (x3 + 1)) else (rc σ (x3 + 1))) else (rc σ (x3 + 1))
set_option maxRecDepth 20000 in
theorem c7_gather_p72 {l : Launch} {D : va_G} {ad : Nat → Nat → Nat → Nat} {cid : Nat → Nat → Nat → ClassId} {α : Type} {emb : α → Option Value}  (t0 : Nat) (ht0 : t0 < 5) (x1 : Int32) (x2 : Int32) {G : Unit → Mem → Option (α × Mem)} (kx : ∀ r σ, AW (XC l D ad cid) M7_gather 0 emb [] 169 [] σ (G r σ)) {rc : Mem → Int32 → Option ((Unit) × Mem)} (ih : ∀ (σ : Mem) (x3 : Int32), AW (XC l D ad cid) M7_gather 0 emb [(0, .ref (ad 7 t0 0)), (1, .int x1), (2, .int x2), (3, .int x3)] 22 [] σ (bd (rc σ x3) G)) (σ : Mem) (x3 : Int32) (z4 : Bool) (q0 : Bool) : AW (XC l D ad cid) M7_gather 0 emb [(0, .ref (ad 7 t0 0)), (1, .int x1), (2, .int x2), (3, .int x3), (4, .int (b2i z4))] 72 [.int (b2i q0)] σ ((F7_gather_p72 rc σ t0 x1 x2 x3 z4 q0).bind (fun q => G q.1 q.2)) := by
  unfold F7_gather_p72
  refine aw_istore (ls' := [(0, .ref (ad 7 t0 0)), (1, .int x1), (2, .int x2), (3, .int x3), (4, .int (b2i z4)), (5, .int (b2i q0))]) [1, 2, 3, 4, 5, 0] dX7_gather_72 (by decide) rfl ?_
  refine aw_iload 4 dX7_gather_74 rfl ?_
  refine aw_bif_eq 163 dX7_gather_76 (by decide) ?_ ?_
  · refine aw_iinc (ls' := [(0, .ref (ad 7 t0 0)), (1, .int x1), (2, .int x2), (3, .int (x3 + 1))]) (x3 + 1) 3 [1, 2, 3, 0] dX7_gather_163 rfl (by rfl) (by decide) rfl ?_
    refine aw_goto 22 dX7_gather_166 (by decide) ?_
    exact ih σ (x3 + 1)
  · refine aw_iload 5 dX7_gather_79 rfl ?_
    refine aw_bif_eq 163 dX7_gather_81 (by decide) ?_ ?_
    · refine aw_iinc (ls' := [(0, .ref (ad 7 t0 0)), (1, .int x1), (2, .int x2), (3, .int (x3 + 1))]) (x3 + 1) 3 [1, 2, 3, 0] dX7_gather_163 rfl (by rfl) (by decide) rfl ?_
      refine aw_goto 22 dX7_gather_166 (by decide) ?_
      exact ih σ (x3 + 1)
    · refine aw_aload_n 0 dX7_gather_84 rfl rfl ?_
      refine aw_dup dX7_gather_85 rfl ?_
      refine aw_getf (fg_7_7 (by omega)) ci_7 (by decide) w_477 dX7_gather_86 ?_
      refine aw_iconst 1 dX7_gather_89 (by decide) ?_
      refine aw_iadd dX7_gather_90 ?_
      refine aw_putI (fs_7_7 (by omega)) ci_7 (by decide) rfl rfl w_477 dX7_gather_91 ?_
      refine aw_bndM (fun s_5 => ?_)
      refine aw_aload_n 0 dX7_gather_94 rfl rfl ?_
      refine aw_dup dX7_gather_95 rfl ?_
      refine aw_getf (fg_7_8 (by omega)) ci_7 (by decide) w_479 dX7_gather_96 ?_
      refine aw_aload_n 0 dX7_gather_99 rfl rfl ?_
      refine aw_getf (fg_7_2 (by omega)) ci_7 (by decide) w_466 dX7_gather_100 ?_
      refine aw_iload_n 3 dX7_gather_103 rfl rfl ?_
      refine aw_iaload (ar_7_1 (by omega)) dX7_gather_104 (fun v_6 => ?_)
      refine aw_i2l dX7_gather_105 ?_
      refine aw_ladd dX7_gather_106 ?_
      refine aw_putL (fs_7_8 (by omega)) ci_7 (by decide) rfl rfl w_479 dX7_gather_107 ?_
      refine aw_bndM (fun s_7 => ?_)
      refine aw_aload_n 0 dX7_gather_110 rfl rfl ?_
      refine aw_dup dX7_gather_111 rfl ?_
      refine aw_getf (fg_7_9 (by omega)) ci_7 (by decide) w_481 dX7_gather_112 ?_
      refine aw_aload_n 0 dX7_gather_115 rfl rfl ?_
      refine aw_getf (fg_7_3 (by omega)) ci_7 (by decide) w_468 dX7_gather_116 ?_
      refine aw_iload_n 3 dX7_gather_119 rfl rfl ?_
      refine aw_iaload (ar_7_2 (by omega)) dX7_gather_120 (fun v_8 => ?_)
      refine aw_i2l dX7_gather_121 ?_
      refine aw_ladd dX7_gather_122 ?_
      refine aw_putL (fs_7_9 (by omega)) ci_7 (by decide) rfl rfl w_481 dX7_gather_123 ?_
      refine aw_bndM (fun s_9 => ?_)
      refine aw_aload_n 0 dX7_gather_126 rfl rfl ?_
      refine aw_dup dX7_gather_127 rfl ?_
      refine aw_getf (fg_7_10 (by omega)) ci_7 (by decide) w_483 dX7_gather_128 ?_
      refine aw_aload_n 0 dX7_gather_131 rfl rfl ?_
      refine aw_getf (fg_7_2 (by omega)) ci_7 (by decide) w_466 dX7_gather_132 ?_
      refine aw_iload_n 3 dX7_gather_135 rfl rfl ?_
      refine aw_iaload (ar_7_1 (by omega)) dX7_gather_136 (fun v_10 => ?_)
      refine aw_aload_n 0 dX7_gather_137 rfl rfl ?_
      refine aw_getf (fg_7_2 (by omega)) ci_7 (by decide) w_466 dX7_gather_138 ?_
      refine aw_iload_n 3 dX7_gather_141 rfl rfl ?_
      refine aw_iaload (ar_7_1 (by omega)) dX7_gather_142 (fun v_11 => ?_)
      refine aw_imul dX7_gather_143 ?_
      refine aw_aload_n 0 dX7_gather_144 rfl rfl ?_
      refine aw_getf (fg_7_3 (by omega)) ci_7 (by decide) w_468 dX7_gather_145 ?_
      refine aw_iload_n 3 dX7_gather_148 rfl rfl ?_
      refine aw_iaload (ar_7_2 (by omega)) dX7_gather_149 (fun v_12 => ?_)
      refine aw_aload_n 0 dX7_gather_150 rfl rfl ?_
      refine aw_getf (fg_7_3 (by omega)) ci_7 (by decide) w_468 dX7_gather_151 ?_
      refine aw_iload_n 3 dX7_gather_154 rfl rfl ?_
      refine aw_iaload (ar_7_2 (by omega)) dX7_gather_155 (fun v_13 => ?_)
      refine aw_imul dX7_gather_156 ?_
      refine aw_iadd dX7_gather_157 ?_
      refine aw_i2l dX7_gather_158 ?_
      refine aw_ladd dX7_gather_159 ?_
      refine aw_putL (fs_7_10 (by omega)) ci_7 (by decide) rfl rfl w_483 dX7_gather_160 ?_
      refine aw_bndM (fun s_14 => ?_)
      refine aw_iinc (ls' := [(0, .ref (ad 7 t0 0)), (1, .int x1), (2, .int x2), (3, .int (x3 + 1))]) (x3 + 1) 3 [1, 2, 3, 0] dX7_gather_163 rfl (by rfl) (by decide) rfl ?_
      refine aw_goto 22 dX7_gather_166 (by decide) ?_
      exact ih s_14 (x3 + 1)
def F7_gather_p50 (rc : Mem → Int32 → Option ((Unit) × Mem)) (σ : Mem) (t0 : Nat) (x1 : Int32) (x2 : Int32) (x3 : Int32) (q0 : Bool) : Option ((Unit) × Mem) :=
  if x2 = (-1) then (F7_gather_p72 rc σ t0 x1 x2 x3 q0 true) else ((ald 60 (gI σ 7 t0 4) x3).bind fun v_15 => if v_15 = x2 then (F7_gather_p72 rc σ t0 x1 x2 x3 q0 true) else (F7_gather_p72 rc σ t0 x1 x2 x3 q0 false))
set_option maxRecDepth 20000 in
theorem c7_gather_p50 {l : Launch} {D : va_G} {ad : Nat → Nat → Nat → Nat} {cid : Nat → Nat → Nat → ClassId} {α : Type} {emb : α → Option Value}  (t0 : Nat) (ht0 : t0 < 5) (x1 : Int32) (x2 : Int32) {G : Unit → Mem → Option (α × Mem)} (kx : ∀ r σ, AW (XC l D ad cid) M7_gather 0 emb [] 169 [] σ (G r σ)) {rc : Mem → Int32 → Option ((Unit) × Mem)} (ih : ∀ (σ : Mem) (x3 : Int32), AW (XC l D ad cid) M7_gather 0 emb [(0, .ref (ad 7 t0 0)), (1, .int x1), (2, .int x2), (3, .int x3)] 22 [] σ (bd (rc σ x3) G)) (σ : Mem) (x3 : Int32) (q0 : Bool) : AW (XC l D ad cid) M7_gather 0 emb [(0, .ref (ad 7 t0 0)), (1, .int x1), (2, .int x2), (3, .int x3)] 50 [.int (b2i q0)] σ ((F7_gather_p50 rc σ t0 x1 x2 x3 q0).bind (fun q => G q.1 q.2)) := by
  unfold F7_gather_p50
  refine aw_istore (ls' := [(0, .ref (ad 7 t0 0)), (1, .int x1), (2, .int x2), (3, .int x3), (4, .int (b2i q0))]) [1, 2, 3, 4, 0] dX7_gather_50 (by decide) rfl ?_
  refine aw_iload_n 2 dX7_gather_52 rfl rfl ?_
  refine aw_iconst (-1) dX7_gather_53 (by decide) ?_
  refine aw_icmp_eq 67 dX7_gather_54 (by decide) ?_ ?_
  · refine aw_iconst 1 dX7_gather_67 (by decide) ?_
    refine aw_goto 72 dX7_gather_68 (by decide) ?_
    exact c7_gather_p72 t0 ht0 x1 x2 kx ih σ x3 q0 true
  · refine aw_aload_n 0 dX7_gather_57 rfl rfl ?_
    refine aw_getf (fg_7_5 (by omega)) ci_7 (by decide) w_472 dX7_gather_58 ?_
    refine aw_iload_n 3 dX7_gather_61 rfl rfl ?_
    refine aw_iaload (ar_7_4 (by omega)) dX7_gather_62 (fun v_15 => ?_)
    refine aw_iload_n 2 dX7_gather_63 rfl rfl ?_
    refine aw_icmp_ne 71 dX7_gather_64 (by decide) ?_ ?_
    · refine aw_iconst 0 dX7_gather_71 (by decide) ?_
      exact c7_gather_p72 t0 ht0 x1 x2 kx ih σ x3 q0 false
    · refine aw_iconst 1 dX7_gather_67 (by decide) ?_
      refine aw_goto 72 dX7_gather_68 (by decide) ?_
      exact c7_gather_p72 t0 ht0 x1 x2 kx ih σ x3 q0 true
def F7_gather_L22 (t0 : Nat) (x1 : Int32) (x2 : Int32) : Nat → Mem → Int32 → Option ((Unit) × Mem)
  | 0 => fun _ _ => none
  | n + 1 => fun σ x3 =>
    if (gI σ 7 t0 0 1) ≤ x3 then (some ((), σ)) else (if x1 = (-1) then (F7_gather_p50 (F7_gather_L22 t0 x1 x2 n) σ t0 x1 x2 x3 true) else ((ald 60 (gI σ 7 t0 3) x3).bind fun v_16 => if v_16 = x1 then (F7_gather_p50 (F7_gather_L22 t0 x1 x2 n) σ t0 x1 x2 x3 true) else (F7_gather_p50 (F7_gather_L22 t0 x1 x2 n) σ t0 x1 x2 x3 false)))
set_option maxRecDepth 20000 in
theorem c7_gather_L22 {l : Launch} {D : va_G} {ad : Nat → Nat → Nat → Nat} {cid : Nat → Nat → Nat → ClassId} {α : Type} {emb : α → Option Value} (t0 : Nat) (ht0 : t0 < 5) (x1 : Int32) (x2 : Int32) {G : Unit → Mem → Option (α × Mem)} (kx : ∀ r σ, AW (XC l D ad cid) M7_gather 0 emb [] 169 [] σ (G r σ)) : ∀ (n : Nat) (σ : Mem) (x3 : Int32), AW (XC l D ad cid) M7_gather 0 emb [(0, .ref (ad 7 t0 0)), (1, .int x1), (2, .int x2), (3, .int x3)] 22 [] σ (bd (F7_gather_L22 t0 x1 x2 n σ x3) G) := by
  intro n
  induction n with
  | zero => intros; exact aw_none
  | succ n ih =>
    intro σ x3
    refine aw_bdB ?_
    rw [F7_gather_L22.eq_2]
    refine aw_iload_n 3 dX7_gather_22 rfl rfl ?_
    refine aw_aload_n 0 dX7_gather_23 rfl rfl ?_
    refine aw_getf (fg_7_1 (by omega)) ci_7 (by decide) w_463 dX7_gather_24 ?_
    refine aw_icmp_ge 169 dX7_gather_27 (by decide) ?_ ?_
    · refine aw_ls (ls' := []) [] rfl ?_
      exact kx () σ
    · refine aw_iload_n 1 dX7_gather_30 rfl rfl ?_
      refine aw_iconst (-1) dX7_gather_31 (by decide) ?_
      refine aw_icmp_eq 45 dX7_gather_32 (by decide) ?_ ?_
      · refine aw_iconst 1 dX7_gather_45 (by decide) ?_
        refine aw_goto 50 dX7_gather_46 (by decide) ?_
        exact c7_gather_p50 t0 ht0 x1 x2 kx ih σ x3 true
      · refine aw_aload_n 0 dX7_gather_35 rfl rfl ?_
        refine aw_getf (fg_7_4 (by omega)) ci_7 (by decide) w_470 dX7_gather_36 ?_
        refine aw_iload_n 3 dX7_gather_39 rfl rfl ?_
        refine aw_iaload (ar_7_3 (by omega)) dX7_gather_40 (fun v_16 => ?_)
        refine aw_iload_n 1 dX7_gather_41 rfl rfl ?_
        refine aw_icmp_ne 49 dX7_gather_42 (by decide) ?_ ?_
        · refine aw_iconst 0 dX7_gather_49 (by decide) ?_
          exact c7_gather_p50 t0 ht0 x1 x2 kx ih σ x3 false
        · refine aw_iconst 1 dX7_gather_45 (by decide) ?_
          refine aw_goto 50 dX7_gather_46 (by decide) ?_
          exact c7_gather_p50 t0 ht0 x1 x2 kx ih σ x3 true
def F7_gather (σ : Mem) (t0 : Nat) (x1 : Int32) (x2 : Int32) : Option (Unit × Mem) :=
  bnd (sI σ 7 t0 0 7 0) fun s_1 => bnd (sL s_1 7 t0 0 8 0) fun s_2 => bnd (sL s_2 7 t0 0 9 0) fun s_3 => bnd (sL s_3 7 t0 0 10 0) fun s_4 => bd (F7_gather_L22 t0 x1 x2 fuelK s_4 0) fun r_17 s_18 => some ((), s_18)
set_option maxRecDepth 20000 in
theorem c7_gather {l : Launch} {D : va_G} {ad : Nat → Nat → Nat → Nat} {cid : Nat → Nat → Nat → ClassId} (σ : Mem) (t0 : Nat) (ht0 : t0 < 5) (x1 : Int32) (x2 : Int32) : AMF (XC l D ad cid) M7_gather 0 eU [.ref (ad 7 t0 0), .int x1, .int x2] σ (F7_gather σ t0 x1 x2) := by
  refine AM.ofW (by decide +kernel) (Nat.le_of_ble_eq_true rfl) (ls := [(0, .ref (ad 7 t0 0)), (1, .int x1), (2, .int x2)]) rfl ?_
  refine aw_entry ?_
  unfold F7_gather
  refine aw_aload_n 0 dX7_gather_0 rfl rfl ?_
  refine aw_iconst 0 dX7_gather_1 (by decide) ?_
  refine aw_putI (fs_7_7 (by omega)) ci_7 (by decide) rfl rfl w_477 dX7_gather_2 ?_
  refine aw_bndM (fun s_1 => ?_)
  refine aw_aload_n 0 dX7_gather_5 rfl rfl ?_
  refine aw_lconst 0 dX7_gather_6 (by decide) ?_
  refine aw_putL (fs_7_8 (by omega)) ci_7 (by decide) rfl rfl w_479 dX7_gather_7 ?_
  refine aw_bndM (fun s_2 => ?_)
  refine aw_aload_n 0 dX7_gather_10 rfl rfl ?_
  refine aw_lconst 0 dX7_gather_11 (by decide) ?_
  refine aw_putL (fs_7_9 (by omega)) ci_7 (by decide) rfl rfl w_481 dX7_gather_12 ?_
  refine aw_bndM (fun s_3 => ?_)
  refine aw_aload_n 0 dX7_gather_15 rfl rfl ?_
  refine aw_lconst 0 dX7_gather_16 (by decide) ?_
  refine aw_putL (fs_7_10 (by omega)) ci_7 (by decide) rfl rfl w_483 dX7_gather_17 ?_
  refine aw_bndM (fun s_4 => ?_)
  refine aw_iconst 0 dX7_gather_20 (by decide) ?_
  refine aw_istore_n (ls' := [(0, .ref (ad 7 t0 0)), (1, .int x1), (2, .int x2), (3, .int 0)]) [1, 2, 3, 0] dX7_gather_21 rfl (by decide) rfl ?_
  refine aw_assocW ?_
  refine c7_gather_L22 t0 (by omega) x1 x2 (fun r_17 s_18 => ?_) fuelK s_4 0
  exact aw_return rfl dX7_gather_169
def F11_shooter (σ : Mem) (x1 : Int32) (x2 : Int32) : Option (Int32 × Mem) :=
  (F11_isShooter σ x1).bind fun v_1 => if v_1 = true then (if x2 = 0 then (gd 5 (gR σ 11 0 0 5) fun t_3 => (ald 6 (gI σ 9 t_3 9) x1).bind fun v_4 => bd (F11_answer σ v_4) fun v_5 s_6 => some (v_5, s_6)) else if x2 = 1 then (gd 5 (gR σ 11 0 0 5) fun t_8 => (ald 6 (gI σ 9 t_8 10) x1).bind fun v_9 => bd (F11_answer σ v_9) fun v_10 s_11 => some (v_10, s_11)) else if x2 = 2 then (gd 5 (gR σ 11 0 0 5) fun t_13 => (ald 6 (gI σ 9 t_13 11) x1).bind fun v_14 => bd (F11_answer σ v_14) fun v_15 s_16 => some (v_15, s_16)) else if x2 = 3 then (gd 5 (gR σ 11 0 0 5) fun t_18 => (ald 6 (gI σ 9 t_18 12) x1).bind fun v_19 => bd (F11_answer σ v_19) fun v_20 s_21 => some (v_20, s_21)) else if x2 = 4 then ((ald 6 (gI σ 7 0 5) x1).bind fun v_23 => bd (F11_answer σ v_23) fun v_24 s_25 => some (v_24, s_25)) else if x2 = 5 then (bd (F7_gather σ 0 x1 (-1)) fun _ s_27 => bd (F11_answer s_27 (gI s_27 7 0 0 7)) fun v_28 s_29 => some (v_28, s_29)) else (bd (F11_refuse σ 5) fun v_30 s_31 => some (v_30, s_31))) else (bd (F11_refuse σ 2) fun v_32 s_33 => some (v_32, s_33))
set_option maxRecDepth 20000 in
theorem c11_shooter {l : Launch} {D : va_G} {ad : Nat → Nat → Nat → Nat} {cid : Nat → Nat → Nat → ClassId} (σ : Mem) (x1 : Int32) (x2 : Int32) : AMF (XC l D ad cid) M11_shooter 2 eI [.ref (ad 11 0 0), .int x1, .int x2] σ (F11_shooter σ x1 x2) := by
  refine AM.ofW (by decide +kernel) (Nat.le_of_ble_eq_true rfl) (ls := [(0, .ref (ad 11 0 0)), (1, .int x1), (2, .int x2)]) rfl ?_
  refine aw_entry ?_
  unfold F11_shooter
  refine aw_aload_n 0 dX11_shooter_0 rfl rfl ?_
  refine aw_iload_n 1 dX11_shooter_1 rfl rfl ?_
  refine aw_callVO_B (c11_isShooter σ x1) (io_11 (by decide)) ci_11 (by decide) mk_11_isShooter w_1064 w_23 w_1062 rfl rfl (Nat.le_of_ble_eq_true rfl) dX11_shooter_2 (fun v_1 => ?_)
  refine aw_bif_ne 14 dX11_shooter_5 (by decide) ?_ ?_
  · refine aw_iload_n 2 dX11_shooter_14 rfl rfl ?_
    refine aw_case (c := 0) (fun h_2 => ?_) (fun h_2 => ?_)
    · refine aw_tabIn 52 h_2 dX11_shooter_15 (by decide) (by decide) rfl (by decide) ?_
      refine aw_aload_n 0 dX11_shooter_52 rfl rfl ?_
      refine aw_aload_n 0 dX11_shooter_53 rfl rfl ?_
      refine aw_getf (fg_11_5 (by decide)) ci_11 (by decide) w_722 dX11_shooter_54 ?_
      refine aw_gd (n := 5) (fun t_3 ht_3 => ?_)
      refine aw_getf (fg_9_15 (by omega)) ci_9 (by decide) w_357 dX11_shooter_57 ?_
      refine aw_iload_n 1 dX11_shooter_60 rfl rfl ?_
      refine aw_iaload (ar_9_9 (by omega)) dX11_shooter_61 (fun v_4 => ?_)
      refine aw_callVW_I (c11_answer σ v_4) (io_11 (by decide)) ci_11 (by decide) mk_11_answer w_975 w_15 w_973 rfl rfl (Nat.le_of_ble_eq_true rfl) dX11_shooter_62 (fun v_5 s_6 => ?_)
      exact aw_ireturn rfl dX11_shooter_65
    refine aw_case (c := 1) (fun h_7 => ?_) (fun h_7 => ?_)
    · refine aw_tabIn 66 h_7 dX11_shooter_15 (by decide) (by decide) rfl (by decide) ?_
      refine aw_aload_n 0 dX11_shooter_66 rfl rfl ?_
      refine aw_aload_n 0 dX11_shooter_67 rfl rfl ?_
      refine aw_getf (fg_11_5 (by decide)) ci_11 (by decide) w_722 dX11_shooter_68 ?_
      refine aw_gd (n := 5) (fun t_8 ht_8 => ?_)
      refine aw_getf (fg_9_16 (by omega)) ci_9 (by decide) w_359 dX11_shooter_71 ?_
      refine aw_iload_n 1 dX11_shooter_74 rfl rfl ?_
      refine aw_iaload (ar_9_10 (by omega)) dX11_shooter_75 (fun v_9 => ?_)
      refine aw_callVW_I (c11_answer σ v_9) (io_11 (by decide)) ci_11 (by decide) mk_11_answer w_975 w_15 w_973 rfl rfl (Nat.le_of_ble_eq_true rfl) dX11_shooter_76 (fun v_10 s_11 => ?_)
      exact aw_ireturn rfl dX11_shooter_79
    refine aw_case (c := 2) (fun h_12 => ?_) (fun h_12 => ?_)
    · refine aw_tabIn 80 h_12 dX11_shooter_15 (by decide) (by decide) rfl (by decide) ?_
      refine aw_aload_n 0 dX11_shooter_80 rfl rfl ?_
      refine aw_aload_n 0 dX11_shooter_81 rfl rfl ?_
      refine aw_getf (fg_11_5 (by decide)) ci_11 (by decide) w_722 dX11_shooter_82 ?_
      refine aw_gd (n := 5) (fun t_13 ht_13 => ?_)
      refine aw_getf (fg_9_17 (by omega)) ci_9 (by decide) w_362 dX11_shooter_85 ?_
      refine aw_iload_n 1 dX11_shooter_88 rfl rfl ?_
      refine aw_iaload (ar_9_11 (by omega)) dX11_shooter_89 (fun v_14 => ?_)
      refine aw_callVW_I (c11_answer σ v_14) (io_11 (by decide)) ci_11 (by decide) mk_11_answer w_975 w_15 w_973 rfl rfl (Nat.le_of_ble_eq_true rfl) dX11_shooter_90 (fun v_15 s_16 => ?_)
      exact aw_ireturn rfl dX11_shooter_93
    refine aw_case (c := 3) (fun h_17 => ?_) (fun h_17 => ?_)
    · refine aw_tabIn 94 h_17 dX11_shooter_15 (by decide) (by decide) rfl (by decide) ?_
      refine aw_aload_n 0 dX11_shooter_94 rfl rfl ?_
      refine aw_aload_n 0 dX11_shooter_95 rfl rfl ?_
      refine aw_getf (fg_11_5 (by decide)) ci_11 (by decide) w_722 dX11_shooter_96 ?_
      refine aw_gd (n := 5) (fun t_18 ht_18 => ?_)
      refine aw_getf (fg_9_18 (by omega)) ci_9 (by decide) w_365 dX11_shooter_99 ?_
      refine aw_iload_n 1 dX11_shooter_102 rfl rfl ?_
      refine aw_iaload (ar_9_12 (by omega)) dX11_shooter_103 (fun v_19 => ?_)
      refine aw_callVW_I (c11_answer σ v_19) (io_11 (by decide)) ci_11 (by decide) mk_11_answer w_975 w_15 w_973 rfl rfl (Nat.le_of_ble_eq_true rfl) dX11_shooter_104 (fun v_20 s_21 => ?_)
      exact aw_ireturn rfl dX11_shooter_107
    refine aw_case (c := 4) (fun h_22 => ?_) (fun h_22 => ?_)
    · refine aw_tabIn 108 h_22 dX11_shooter_15 (by decide) (by decide) rfl (by decide) ?_
      refine aw_aload_n 0 dX11_shooter_108 rfl rfl ?_
      refine aw_aload_n 0 dX11_shooter_109 rfl rfl ?_
      refine aw_getf (fg_11_9 (by decide)) ci_11 (by decide) w_726 dX11_shooter_110 ?_
      refine aw_getf (fg_7_6 (by decide)) ci_7 (by decide) w_476 dX11_shooter_113 ?_
      refine aw_iload_n 1 dX11_shooter_116 rfl rfl ?_
      refine aw_iaload (ar_7_5 (by decide)) dX11_shooter_117 (fun v_23 => ?_)
      refine aw_callVW_I (c11_answer σ v_23) (io_11 (by decide)) ci_11 (by decide) mk_11_answer w_975 w_15 w_973 rfl rfl (Nat.le_of_ble_eq_true rfl) dX11_shooter_118 (fun v_24 s_25 => ?_)
      exact aw_ireturn rfl dX11_shooter_121
    refine aw_case (c := 5) (fun h_26 => ?_) (fun h_26 => ?_)
    · refine aw_tabIn 122 h_26 dX11_shooter_15 (by decide) (by decide) rfl (by decide) ?_
      refine aw_aload_n 0 dX11_shooter_122 rfl rfl ?_
      refine aw_getf (fg_11_9 (by decide)) ci_11 (by decide) w_726 dX11_shooter_123 ?_
      refine aw_iload_n 1 dX11_shooter_126 rfl rfl ?_
      refine aw_iconst (-1) dX11_shooter_127 (by decide) ?_
      refine aw_callVW_U (c7_gather σ 0 (by decide) x1 (-1)) (io_7 (by decide)) ci_7 (by decide) mk_7_gather w_1067 w_1068 w_1066 rfl rfl (Nat.le_of_ble_eq_true rfl) dX11_shooter_128 (fun _ s_27 => ?_)
      refine aw_aload_n 0 dX11_shooter_131 rfl rfl ?_
      refine aw_aload_n 0 dX11_shooter_132 rfl rfl ?_
      refine aw_getf (fg_11_9 (by decide)) ci_11 (by decide) w_726 dX11_shooter_133 ?_
      refine aw_getf (fg_7_7 (by decide)) ci_7 (by decide) w_478 dX11_shooter_136 ?_
      refine aw_callVW_I (c11_answer s_27 (gI s_27 7 0 0 7)) (io_11 (by decide)) ci_11 (by decide) mk_11_answer w_975 w_15 w_973 rfl rfl (Nat.le_of_ble_eq_true rfl) dX11_shooter_139 (fun v_28 s_29 => ?_)
      exact aw_ireturn rfl dX11_shooter_142
    refine aw_tabOut 143 dX11_shooter_15 (by have eh_2 : x2.toInt ≠ 0 := ne_toInt h_2; have eh_7 : x2.toInt ≠ 1 := ne_toInt h_7; have eh_12 : x2.toInt ≠ 2 := ne_toInt h_12; have eh_17 : x2.toInt ≠ 3 := ne_toInt h_17; have eh_22 : x2.toInt ≠ 4 := ne_toInt h_22; have eh_26 : x2.toInt ≠ 5 := ne_toInt h_26; omega) (by decide) ?_
    refine aw_aload_n 0 dX11_shooter_143 rfl rfl ?_
    refine aw_iconst 5 dX11_shooter_144 (by decide) ?_
    refine aw_callVW_I (c11_refuse σ 5) (io_11 (by decide)) ci_11 (by decide) mk_11_refuse w_838 w_3 w_836 rfl rfl (Nat.le_of_ble_eq_true rfl) dX11_shooter_145 (fun v_30 s_31 => ?_)
    exact aw_ireturn rfl dX11_shooter_148
  · refine aw_aload_n 0 dX11_shooter_8 rfl rfl ?_
    refine aw_iconst 2 dX11_shooter_9 (by decide) ?_
    refine aw_callVW_I (c11_refuse σ 2) (io_11 (by decide)) ci_11 (by decide) mk_11_refuse w_838 w_3 w_836 rfl rfl (Nat.le_of_ble_eq_true rfl) dX11_shooter_10 (fun v_32 s_33 => ?_)
    exact aw_ireturn rfl dX11_shooter_13
def F11_takeShot (σ : Mem) (x1 : Int32) (x2 : Int32) (x3 : Int32) (x4 : Int32) (x5 : Int32) (x6 : Int32) : Option (Unit × Mem) :=
  bnd (sI σ 6 0 0 0 x1) fun s_1 => bnd (sI s_1 6 0 0 1 x2) fun s_2 => bnd (sI s_2 6 0 0 2 x3) fun s_3 => bnd (sI s_3 6 0 0 3 x4) fun s_4 => bnd (sI s_4 6 0 0 4 x5) fun s_5 => bnd (sI s_5 6 0 0 5 x6) fun s_6 => bnd (sI s_6 6 0 0 6 (gI s_6 7 0 0 0)) fun s_7 => gd 5 (gR s_7 11 0 0 5) fun t_8 => bnd (sI s_7 6 0 0 7 (gI s_7 9 t_8 0 0)) fun s_9 => some ((), s_9)
set_option maxRecDepth 20000 in
theorem c11_takeShot {l : Launch} {D : va_G} {ad : Nat → Nat → Nat → Nat} {cid : Nat → Nat → Nat → ClassId} (σ : Mem) (x1 : Int32) (x2 : Int32) (x3 : Int32) (x4 : Int32) (x5 : Int32) (x6 : Int32) : AMF (XC l D ad cid) M11_takeShot 0 eU [.ref (ad 11 0 0), .int x1, .int x2, .int x3, .int x4, .int x5, .int x6] σ (F11_takeShot σ x1 x2 x3 x4 x5 x6) := by
  refine AM.ofW (by decide +kernel) (Nat.le_of_ble_eq_true rfl) (ls := [(0, .ref (ad 11 0 0)), (1, .int x1), (2, .int x2), (3, .int x3), (4, .int x4), (5, .int x5), (6, .int x6)]) rfl ?_
  refine aw_entry ?_
  unfold F11_takeShot
  refine aw_aload_n 0 dX11_takeShot_0 rfl rfl ?_
  refine aw_getf (fg_11_13 (by decide)) ci_11 (by decide) w_730 dX11_takeShot_1 ?_
  refine aw_iload_n 1 dX11_takeShot_4 rfl rfl ?_
  refine aw_putI (fs_6_0 (by decide)) ci_6 (by decide) rfl rfl w_541 dX11_takeShot_5 ?_
  refine aw_bndM (fun s_1 => ?_)
  refine aw_aload_n 0 dX11_takeShot_8 rfl rfl ?_
  refine aw_getf (fg_11_13 (by decide)) ci_11 (by decide) w_730 dX11_takeShot_9 ?_
  refine aw_iload_n 2 dX11_takeShot_12 rfl rfl ?_
  refine aw_putI (fs_6_1 (by decide)) ci_6 (by decide) rfl rfl w_545 dX11_takeShot_13 ?_
  refine aw_bndM (fun s_2 => ?_)
  refine aw_aload_n 0 dX11_takeShot_16 rfl rfl ?_
  refine aw_getf (fg_11_13 (by decide)) ci_11 (by decide) w_730 dX11_takeShot_17 ?_
  refine aw_iload_n 3 dX11_takeShot_20 rfl rfl ?_
  refine aw_putI (fs_6_2 (by decide)) ci_6 (by decide) rfl rfl w_548 dX11_takeShot_21 ?_
  refine aw_bndM (fun s_3 => ?_)
  refine aw_aload_n 0 dX11_takeShot_24 rfl rfl ?_
  refine aw_getf (fg_11_13 (by decide)) ci_11 (by decide) w_730 dX11_takeShot_25 ?_
  refine aw_iload 4 dX11_takeShot_28 rfl ?_
  refine aw_putI (fs_6_3 (by decide)) ci_6 (by decide) rfl rfl w_551 dX11_takeShot_30 ?_
  refine aw_bndM (fun s_4 => ?_)
  refine aw_aload_n 0 dX11_takeShot_33 rfl rfl ?_
  refine aw_getf (fg_11_13 (by decide)) ci_11 (by decide) w_730 dX11_takeShot_34 ?_
  refine aw_iload 5 dX11_takeShot_37 rfl ?_
  refine aw_putI (fs_6_4 (by decide)) ci_6 (by decide) rfl rfl w_554 dX11_takeShot_39 ?_
  refine aw_bndM (fun s_5 => ?_)
  refine aw_aload_n 0 dX11_takeShot_42 rfl rfl ?_
  refine aw_getf (fg_11_13 (by decide)) ci_11 (by decide) w_730 dX11_takeShot_43 ?_
  refine aw_iload 6 dX11_takeShot_46 rfl ?_
  refine aw_putI (fs_6_5 (by decide)) ci_6 (by decide) rfl rfl w_557 dX11_takeShot_48 ?_
  refine aw_bndM (fun s_6 => ?_)
  refine aw_aload_n 0 dX11_takeShot_51 rfl rfl ?_
  refine aw_getf (fg_11_13 (by decide)) ci_11 (by decide) w_730 dX11_takeShot_52 ?_
  refine aw_aload_n 0 dX11_takeShot_55 rfl rfl ?_
  refine aw_getf (fg_11_9 (by decide)) ci_11 (by decide) w_726 dX11_takeShot_56 ?_
  refine aw_getf (fg_7_0 (by decide)) ci_7 (by decide) w_462 dX11_takeShot_59 ?_
  refine aw_putI (fs_6_6 (by decide)) ci_6 (by decide) rfl rfl w_560 dX11_takeShot_62 ?_
  refine aw_bndM (fun s_7 => ?_)
  refine aw_aload_n 0 dX11_takeShot_65 rfl rfl ?_
  refine aw_getf (fg_11_13 (by decide)) ci_11 (by decide) w_730 dX11_takeShot_66 ?_
  refine aw_aload_n 0 dX11_takeShot_69 rfl rfl ?_
  refine aw_getf (fg_11_5 (by decide)) ci_11 (by decide) w_722 dX11_takeShot_70 ?_
  refine aw_gd (n := 5) (fun t_8 ht_8 => ?_)
  refine aw_getf (fg_9_0 (by omega)) ci_9 (by decide) w_321 dX11_takeShot_73 ?_
  refine aw_putI (fs_6_7 (by decide)) ci_6 (by decide) rfl rfl w_563 dX11_takeShot_76 ?_
  refine aw_bndM (fun s_9 => ?_)
  exact aw_return rfl dX11_takeShot_79
def F6_paceOf (σ : Mem) (t0 : Nat) (x1 : Int32) (z2 : Bool) : Option Int32 :=
  if 0 < x1 then (if x1 = 0 then none else bnd (((gI σ 6 t0 0 2) * (gI σ 6 t0 0 7)) / x1) fun v_1 => if z2 = true then (some (v_1 / 2)) else (some v_1)) else (some 0)
set_option maxRecDepth 20000 in
theorem c6_paceOf {l : Launch} {D : va_G} {ad : Nat → Nat → Nat → Nat} {cid : Nat → Nat → Nat → ClassId} (σ : Mem) (t0 : Nat) (ht0 : t0 < 3) (x1 : Int32) (z2 : Bool) : AMF (XC l D ad cid) M6_paceOf 0 eI [.ref (ad 6 t0 0), .int x1, .int (b2i z2)] σ (oM σ (F6_paceOf σ t0 x1 z2)) := by
  refine AM.ofW (by decide +kernel) (Nat.le_of_ble_eq_true rfl) (ls := [(0, .ref (ad 6 t0 0)), (1, .int x1), (2, .int (b2i z2))]) rfl ?_
  refine aw_entryO ?_
  unfold F6_paceOf
  refine aw_iload_n 1 dX6_paceOf_0 rfl rfl ?_
  refine aw_if_gt 6 dX6_paceOf_1 (by decide) ?_ ?_
  · refine aw_aload_n 0 dX6_paceOf_6 rfl rfl ?_
    refine aw_getf (fg_6_2 (by omega)) ci_6 (by decide) w_546 dX6_paceOf_7 ?_
    refine aw_aload_n 0 dX6_paceOf_10 rfl rfl ?_
    refine aw_getf (fg_6_7 (by omega)) ci_6 (by decide) w_561 dX6_paceOf_11 ?_
    refine aw_imul dX6_paceOf_14 ?_
    refine aw_iload_n 1 dX6_paceOf_15 rfl rfl ?_
    refine aw_idiv dX6_paceOf_16 ?_
    refine aw_bnd_int (fun v_1 => ?_)
    refine aw_istore_n (ls' := [(2, .int (b2i z2)), (3, .int v_1)]) [3, 0] dX6_paceOf_17 rfl (by decide) rfl ?_
    refine aw_iload_n 0 dX6_paceOf_18 rfl rfl ?_
    refine aw_bif_eq 28 dX6_paceOf_19 (by decide) ?_ ?_
    · refine aw_iload_n 1 dX6_paceOf_28 rfl rfl ?_
      exact aw_ireturn rfl dX6_paceOf_29
    · refine aw_iload_n 1 dX6_paceOf_22 rfl rfl ?_
      refine aw_iconst 2 dX6_paceOf_23 (by decide) ?_
      refine aw_idiv_c dX6_paceOf_24 (by decide) ?_
      refine aw_goto 29 dX6_paceOf_25 (by decide) ?_
      exact aw_ireturn rfl dX6_paceOf_29
  · refine aw_iconst 0 dX6_paceOf_4 (by decide) ?_
    exact aw_ireturn rfl dX6_paceOf_5
def F6_fly_p78 (σ : Mem) (t0 : Nat) (t1 : Nat) (q0 : Nat) (q1 : Int32) : Option (Unit × Mem) :=
  bnd (sI σ 6 q0 0 12 q1) fun s_4 => (ald 8 (gI s_4 9 t1 6) (gI s_4 6 t0 0 1)).bind fun v_5 => bnd ((v_5 * (gI s_4 6 t0 0 10)) / 16) fun v_6 => (F9_rattles s_4 t1 (gI s_4 6 t0 0 1)).bind fun v_7 => if v_7 = true then (bnd (sI s_4 6 t0 0 13 (2 * v_6)) fun s_9 => some ((), s_9)) else (bnd (sI s_4 6 t0 0 13 v_6) fun s_8 => some ((), s_8))
set_option maxRecDepth 20000 in
theorem c6_fly_p78 {l : Launch} {D : va_G} {ad : Nat → Nat → Nat → Nat} {cid : Nat → Nat → Nat → ClassId} (σ : Mem) (t0 : Nat) (ht0 : t0 < 3) (t1 : Nat) (ht1 : t1 < 5) (q0 : Nat) (hq0 : q0 < 3) (q1 : Int32) : AW (XC l D ad cid) M6_fly 2 eU [(0, .ref (ad 6 t0 0)), (1, .ref (ad 9 t1 0))] 78 [.int q1, .ref (ad 6 q0 0)] σ ((F6_fly_p78 σ t0 t1 q0 q1).bind some) := by
  unfold F6_fly_p78
  refine aw_putI (fs_6_12 (by omega)) ci_6 (by decide) rfl rfl w_575 dX6_fly_78 ?_
  refine aw_bndM (fun s_4 => ?_)
  refine aw_aload_n 1 dX6_fly_81 rfl rfl ?_
  refine aw_getf (fg_9_11 (by omega)) ci_9 (by decide) w_346 dX6_fly_82 ?_
  refine aw_aload_n 0 dX6_fly_85 rfl rfl ?_
  refine aw_getf (fg_6_1 (by omega)) ci_6 (by decide) w_542 dX6_fly_86 ?_
  refine aw_iaload (ar_9_6 (by omega)) dX6_fly_89 (fun v_5 => ?_)
  refine aw_aload_n 0 dX6_fly_90 rfl rfl ?_
  refine aw_getf (fg_6_10 (by omega)) ci_6 (by decide) w_571 dX6_fly_91 ?_
  refine aw_imul dX6_fly_94 ?_
  refine aw_bipush 16 dX6_fly_95 (by decide) ?_
  refine aw_idiv_c dX6_fly_97 (by decide) ?_
  refine aw_bnd_int (fun v_6 => ?_)
  refine aw_istore_n (ls' := [(0, .ref (ad 6 t0 0)), (1, .ref (ad 9 t1 0)), (3, .int v_6)]) [1, 2, 0] dX6_fly_98 rfl (by decide) rfl ?_
  refine aw_aload_n 0 dX6_fly_99 rfl rfl ?_
  refine aw_aload_n 1 dX6_fly_100 rfl rfl ?_
  refine aw_aload_n 0 dX6_fly_101 rfl rfl ?_
  refine aw_getf (fg_6_1 (by omega)) ci_6 (by decide) w_542 dX6_fly_102 ?_
  refine aw_callVO_B (c9_rattles s_4 t1 (by omega) (gI s_4 6 t0 0 1)) (io_9 (by omega)) ci_9 (by decide) mk_9_rattles w_1054 w_1055 w_1098 rfl rfl (Nat.le_of_ble_eq_true rfl) dX6_fly_105 (fun v_7 => ?_)
  refine aw_bif_eq 117 dX6_fly_108 (by decide) ?_ ?_
  · refine aw_iload_n 2 dX6_fly_117 rfl rfl ?_
    refine aw_putI (fs_6_13 (by omega)) ci_6 (by decide) rfl rfl w_579 dX6_fly_118 ?_
    refine aw_bndM (fun s_8 => ?_)
    exact aw_return rfl dX6_fly_121
  · refine aw_iconst 2 dX6_fly_111 (by decide) ?_
    refine aw_iload_n 2 dX6_fly_112 rfl rfl ?_
    refine aw_imul dX6_fly_113 ?_
    refine aw_goto 118 dX6_fly_114 (by decide) ?_
    refine aw_putI (fs_6_13 (by omega)) ci_6 (by decide) rfl rfl w_579 dX6_fly_118 ?_
    refine aw_bndM (fun s_9 => ?_)
    exact aw_return rfl dX6_fly_121
def F6_fly (σ : Mem) (t0 : Nat) (t1 : Nat) : Option (Unit × Mem) :=
  if 0 < (gI σ 6 t0 0 9) then (if (gI σ 6 t0 0 9) = 0 then none else bnd (sI σ 6 t0 0 10 (((((gI σ 9 t1 0 2) * 240) + (gI σ 6 t0 0 9)) - 1) / (gI σ 6 t0 0 9))) fun s_1 => bnd (sI s_1 6 t0 0 11 (((gI s_1 6 t0 0 10) * (gI s_1 6 t0 0 10)) / 64)) fun s_2 => bnd (((iAbs (gI s_2 9 t1 0 3)) * (gI s_2 6 t0 0 10)) / 8) fun v_3 => if 0 ≤ (gI s_2 9 t1 0 3) then (F6_fly_p78 s_2 t0 t1 t0 v_3) else (F6_fly_p78 s_2 t0 t1 t0 (-v_3))) else (some ((), σ))
set_option maxRecDepth 20000 in
theorem c6_fly {l : Launch} {D : va_G} {ad : Nat → Nat → Nat → Nat} {cid : Nat → Nat → Nat → ClassId} (σ : Mem) (t0 : Nat) (ht0 : t0 < 3) (t1 : Nat) (ht1 : t1 < 5) : AMF (XC l D ad cid) M6_fly 2 eU [.ref (ad 6 t0 0), .ref (ad 9 t1 0)] σ (F6_fly σ t0 t1) := by
  refine AM.ofW (by decide +kernel) (Nat.le_of_ble_eq_true rfl) (ls := [(0, .ref (ad 6 t0 0)), (1, .ref (ad 9 t1 0))]) rfl ?_
  refine aw_entry ?_
  unfold F6_fly
  refine aw_aload_n 0 dX6_fly_0 rfl rfl ?_
  refine aw_getf (fg_6_9 (by omega)) ci_6 (by decide) w_569 dX6_fly_1 ?_
  refine aw_if_gt 8 dX6_fly_4 (by decide) ?_ ?_
  · refine aw_aload_n 0 dX6_fly_8 rfl rfl ?_
    refine aw_aload_n 1 dX6_fly_9 rfl rfl ?_
    refine aw_getf (fg_9_2 (by omega)) ci_9 (by decide) w_325 dX6_fly_10 ?_
    refine aw_sipush 240 dX6_fly_13 (by decide) ?_
    refine aw_imul dX6_fly_16 ?_
    refine aw_aload_n 0 dX6_fly_17 rfl rfl ?_
    refine aw_getf (fg_6_9 (by omega)) ci_6 (by decide) w_569 dX6_fly_18 ?_
    refine aw_iadd dX6_fly_21 ?_
    refine aw_iconst 1 dX6_fly_22 (by decide) ?_
    refine aw_isub dX6_fly_23 ?_
    refine aw_aload_n 0 dX6_fly_24 rfl rfl ?_
    refine aw_getf (fg_6_9 (by omega)) ci_6 (by decide) w_569 dX6_fly_25 ?_
    refine aw_idiv dX6_fly_28 ?_
    refine aw_putI (fs_6_10 (by omega)) ci_6 (by decide) rfl rfl w_571 dX6_fly_29 ?_
    refine aw_bndM (fun s_1 => ?_)
    refine aw_aload_n 0 dX6_fly_32 rfl rfl ?_
    refine aw_aload_n 0 dX6_fly_33 rfl rfl ?_
    refine aw_getf (fg_6_10 (by omega)) ci_6 (by decide) w_571 dX6_fly_34 ?_
    refine aw_aload_n 0 dX6_fly_37 rfl rfl ?_
    refine aw_getf (fg_6_10 (by omega)) ci_6 (by decide) w_571 dX6_fly_38 ?_
    refine aw_imul dX6_fly_41 ?_
    refine aw_bipush 64 dX6_fly_42 (by decide) ?_
    refine aw_idiv_c dX6_fly_44 (by decide) ?_
    refine aw_putI (fs_6_11 (by omega)) ci_6 (by decide) rfl rfl w_573 dX6_fly_45 ?_
    refine aw_bndM (fun s_2 => ?_)
    refine aw_aload_n 1 dX6_fly_48 rfl rfl ?_
    refine aw_getf (fg_9_3 (by omega)) ci_9 (by decide) w_328 dX6_fly_49 ?_
    refine aw_abs w_1095 w_1096 w_159 w_1097 (Nat.le_of_ble_eq_true rfl) dX6_fly_52 ?_
    refine aw_aload_n 0 dX6_fly_55 rfl rfl ?_
    refine aw_getf (fg_6_10 (by omega)) ci_6 (by decide) w_571 dX6_fly_56 ?_
    refine aw_imul dX6_fly_59 ?_
    refine aw_bipush 8 dX6_fly_60 (by decide) ?_
    refine aw_idiv_c dX6_fly_62 (by decide) ?_
    refine aw_bnd_int (fun v_3 => ?_)
    refine aw_istore_n (ls' := [(0, .ref (ad 6 t0 0)), (1, .ref (ad 9 t1 0)), (2, .int v_3)]) [1, 2, 0] dX6_fly_63 rfl (by decide) rfl ?_
    refine aw_aload_n 0 dX6_fly_64 rfl rfl ?_
    refine aw_aload_n 1 dX6_fly_65 rfl rfl ?_
    refine aw_getf (fg_9_3 (by omega)) ci_9 (by decide) w_328 dX6_fly_66 ?_
    refine aw_if_ge 77 dX6_fly_69 (by decide) ?_ ?_
    · refine aw_iload_n 2 dX6_fly_77 rfl rfl ?_
      refine aw_ls (ls' := [(0, .ref (ad 6 t0 0)), (1, .ref (ad 9 t1 0))]) [0, 1] rfl ?_
      exact c6_fly_p78 s_2 t0 (by omega) t1 (by omega) t0 (by omega) v_3
    · refine aw_iload_n 2 dX6_fly_72 rfl rfl ?_
      refine aw_ineg dX6_fly_73 ?_
      refine aw_goto 78 dX6_fly_74 (by decide) ?_
      refine aw_ls (ls' := [(0, .ref (ad 6 t0 0)), (1, .ref (ad 9 t1 0))]) [0, 1] rfl ?_
      exact c6_fly_p78 s_2 t0 (by omega) t1 (by omega) t0 (by omega) (-v_3)
  · exact aw_return rfl dX6_fly_7
def F6_reckon_p92 (σ : Mem) (t0 : Nat) (t1 : Nat) : Option (Unit × Mem) :=
  if 24 ≤ (gI σ 6 t0 0 9) then (bnd (sI σ 6 t0 0 8 0) fun s_7 => bd (F6_fly s_7 t0 t1) fun _ s_8 => some ((), s_8)) else (bnd (sI σ 6 t0 0 8 3) fun s_9 => some ((), s_9))
set_option maxRecDepth 20000 in
theorem c6_reckon_p92 {l : Launch} {D : va_G} {ad : Nat → Nat → Nat → Nat} {cid : Nat → Nat → Nat → ClassId} (σ : Mem) (t0 : Nat) (ht0 : t0 < 3) (t1 : Nat) (ht1 : t1 < 5) : AW (XC l D ad cid) M6_reckon 3 eU [(0, .ref (ad 6 t0 0)), (1, .ref (ad 9 t1 0))] 92 [] σ ((F6_reckon_p92 σ t0 t1).bind some) := by
  unfold F6_reckon_p92
  refine aw_aload_n 0 dX6_reckon_92 rfl rfl ?_
  refine aw_getf (fg_6_9 (by omega)) ci_6 (by decide) w_569 dX6_reckon_93 ?_
  refine aw_bipush 24 dX6_reckon_96 (by decide) ?_
  refine aw_icmp_ge 109 dX6_reckon_98 (by decide) ?_ ?_
  · refine aw_aload_n 0 dX6_reckon_109 rfl rfl ?_
    refine aw_iconst 0 dX6_reckon_110 (by decide) ?_
    refine aw_putI (fs_6_8 (by omega)) ci_6 (by decide) rfl rfl w_564 dX6_reckon_111 ?_
    refine aw_bndM (fun s_7 => ?_)
    refine aw_aload_n 0 dX6_reckon_114 rfl rfl ?_
    refine aw_aload_n 1 dX6_reckon_115 rfl rfl ?_
    refine aw_callVW_U (c6_fly s_7 t0 (by omega) t1 (by omega)) (io_6 (by omega)) ci_6 (by decide) mk_6_fly w_1093 w_27 w_1091 rfl rfl (Nat.le_of_ble_eq_true rfl) dX6_reckon_116 (fun _ s_8 => ?_)
    exact aw_return rfl dX6_reckon_119
  · refine aw_aload_n 0 dX6_reckon_101 rfl rfl ?_
    refine aw_iconst 3 dX6_reckon_102 (by decide) ?_
    refine aw_putI (fs_6_8 (by omega)) ci_6 (by decide) rfl rfl w_564 dX6_reckon_103 ?_
    refine aw_bndM (fun s_9 => ?_)
    refine aw_goto 119 dX6_reckon_106 (by decide) ?_
    exact aw_return rfl dX6_reckon_119
def F6_reckon_p37 (σ : Mem) (t0 : Nat) (t1 : Nat) (x2 : Int32) (q0 : Bool) : Option (Unit × Mem) :=
  (ald 8 (gI σ 9 t1 5) (gI σ 6 t0 0 1)).bind fun v_3 => (F6_paceOf σ t0 ((v_3 + x2) + (gI σ 6 t0 0 6)) q0).bind fun v_4 => bnd (sI σ 6 t0 0 9 v_4) fun s_5 => if 8 ≤ (gI s_5 6 t0 0 6) then (bnd (sI s_5 6 t0 0 8 2) fun s_6 => some ((), s_6)) else (if q0 = true then (if (gI s_5 6 t0 0 6) < 3 then (F6_reckon_p92 s_5 t0 t1) else (bnd (sI s_5 6 t0 0 8 2) fun s_10 => some ((), s_10))) else (F6_reckon_p92 s_5 t0 t1))
set_option maxRecDepth 20000 in
theorem c6_reckon_p37 {l : Launch} {D : va_G} {ad : Nat → Nat → Nat → Nat} {cid : Nat → Nat → Nat → ClassId} (σ : Mem) (t0 : Nat) (ht0 : t0 < 3) (t1 : Nat) (ht1 : t1 < 5) (x2 : Int32) (q0 : Bool) : AW (XC l D ad cid) M6_reckon 3 eU [(0, .ref (ad 6 t0 0)), (1, .ref (ad 9 t1 0)), (2, .int x2)] 37 [.int (b2i q0)] σ ((F6_reckon_p37 σ t0 t1 x2 q0).bind some) := by
  unfold F6_reckon_p37
  refine aw_istore_n (ls' := [(0, .ref (ad 6 t0 0)), (1, .ref (ad 9 t1 0)), (2, .int x2), (3, .int (b2i q0))]) [1, 2, 3, 0] dX6_reckon_37 rfl (by decide) rfl ?_
  refine aw_aload_n 0 dX6_reckon_38 rfl rfl ?_
  refine aw_aload_n 0 dX6_reckon_39 rfl rfl ?_
  refine aw_aload_n 1 dX6_reckon_40 rfl rfl ?_
  refine aw_getf (fg_9_10 (by omega)) ci_9 (by decide) w_343 dX6_reckon_41 ?_
  refine aw_aload_n 0 dX6_reckon_44 rfl rfl ?_
  refine aw_getf (fg_6_1 (by omega)) ci_6 (by decide) w_542 dX6_reckon_45 ?_
  refine aw_iaload (ar_9_5 (by omega)) dX6_reckon_48 (fun v_3 => ?_)
  refine aw_iload_n 2 dX6_reckon_49 rfl rfl ?_
  refine aw_iadd dX6_reckon_50 ?_
  refine aw_aload_n 0 dX6_reckon_51 rfl rfl ?_
  refine aw_getf (fg_6_6 (by omega)) ci_6 (by decide) w_558 dX6_reckon_52 ?_
  refine aw_iadd dX6_reckon_55 ?_
  refine aw_iload_n 3 dX6_reckon_56 rfl rfl ?_
  refine aw_callVO_I (c6_paceOf σ t0 (by omega) ((v_3 + x2) + (gI σ 6 t0 0 6)) q0) (io_6 (by omega)) ci_6 (by decide) mk_6_paceOf w_1089 w_26 w_1087 rfl rfl (Nat.le_of_ble_eq_true rfl) dX6_reckon_57 (fun v_4 => ?_)
  refine aw_putI (fs_6_9 (by omega)) ci_6 (by decide) rfl rfl w_569 dX6_reckon_60 ?_
  refine aw_bndM (fun s_5 => ?_)
  refine aw_aload_n 0 dX6_reckon_63 rfl rfl ?_
  refine aw_getf (fg_6_6 (by omega)) ci_6 (by decide) w_558 dX6_reckon_64 ?_
  refine aw_bipush 8 dX6_reckon_67 (by decide) ?_
  refine aw_icmp_ge 84 dX6_reckon_69 (by decide) ?_ ?_
  · refine aw_aload_n 0 dX6_reckon_84 rfl rfl ?_
    refine aw_iconst 2 dX6_reckon_85 (by decide) ?_
    refine aw_putI (fs_6_8 (by omega)) ci_6 (by decide) rfl rfl w_564 dX6_reckon_86 ?_
    refine aw_bndM (fun s_6 => ?_)
    refine aw_goto 119 dX6_reckon_89 (by decide) ?_
    exact aw_return rfl dX6_reckon_119
  · refine aw_iload_n 3 dX6_reckon_72 rfl rfl ?_
    refine aw_bif_eq 92 dX6_reckon_73 (by decide) ?_ ?_
    · refine aw_ls (ls' := [(0, .ref (ad 6 t0 0)), (1, .ref (ad 9 t1 0))]) [0, 1] rfl ?_
      exact c6_reckon_p92 s_5 t0 (by omega) t1 (by omega)
    · refine aw_aload_n 0 dX6_reckon_76 rfl rfl ?_
      refine aw_getf (fg_6_6 (by omega)) ci_6 (by decide) w_558 dX6_reckon_77 ?_
      refine aw_iconst 3 dX6_reckon_80 (by decide) ?_
      refine aw_icmp_lt 92 dX6_reckon_81 (by decide) ?_ ?_
      · refine aw_ls (ls' := [(0, .ref (ad 6 t0 0)), (1, .ref (ad 9 t1 0))]) [0, 1] rfl ?_
        exact c6_reckon_p92 s_5 t0 (by omega) t1 (by omega)
      · refine aw_aload_n 0 dX6_reckon_84 rfl rfl ?_
        refine aw_iconst 2 dX6_reckon_85 (by decide) ?_
        refine aw_putI (fs_6_8 (by omega)) ci_6 (by decide) rfl rfl w_564 dX6_reckon_86 ?_
        refine aw_bndM (fun s_10 => ?_)
        refine aw_goto 119 dX6_reckon_89 (by decide) ?_
        exact aw_return rfl dX6_reckon_119
def F6_reckon (σ : Mem) (t0 : Nat) (t1 : Nat) : Option (Unit × Mem) :=
  (F9_fitOf σ t1 (gI σ 6 t0 0 1)).bind fun v_1 => if 0 ≤ v_1 then ((ald 8 (gI σ 9 t1 7) (gI σ 6 t0 0 1)).bind fun v_2 => if v_2 = 1 then (F6_reckon_p37 σ t0 t1 v_1 true) else (F6_reckon_p37 σ t0 t1 v_1 false)) else (bnd (sI σ 6 t0 0 8 1) fun s_11 => some ((), s_11))
set_option maxRecDepth 20000 in
theorem c6_reckon {l : Launch} {D : va_G} {ad : Nat → Nat → Nat → Nat} {cid : Nat → Nat → Nat → ClassId} (σ : Mem) (t0 : Nat) (ht0 : t0 < 3) (t1 : Nat) (ht1 : t1 < 5) : AMF (XC l D ad cid) M6_reckon 3 eU [.ref (ad 6 t0 0), .ref (ad 9 t1 0)] σ (F6_reckon σ t0 t1) := by
  refine AM.ofW (by decide +kernel) (Nat.le_of_ble_eq_true rfl) (ls := [(0, .ref (ad 6 t0 0)), (1, .ref (ad 9 t1 0))]) rfl ?_
  refine aw_entry ?_
  unfold F6_reckon
  refine aw_aload_n 1 dX6_reckon_0 rfl rfl ?_
  refine aw_aload_n 0 dX6_reckon_1 rfl rfl ?_
  refine aw_getf (fg_6_1 (by omega)) ci_6 (by decide) w_542 dX6_reckon_2 ?_
  refine aw_callVO_I (c9_fitOf σ t1 (by omega) (gI σ 6 t0 0 1)) (io_9 (by omega)) ci_9 (by decide) mk_9_fitOf w_1050 w_1051 w_1086 rfl rfl (Nat.le_of_ble_eq_true rfl) dX6_reckon_5 (fun v_1 => ?_)
  refine aw_istore_n (ls' := [(0, .ref (ad 6 t0 0)), (1, .ref (ad 9 t1 0)), (2, .int v_1)]) [1, 2, 0] dX6_reckon_8 rfl (by decide) rfl ?_
  refine aw_iload_n 2 dX6_reckon_9 rfl rfl ?_
  refine aw_if_ge 19 dX6_reckon_10 (by decide) ?_ ?_
  · refine aw_aload_n 1 dX6_reckon_19 rfl rfl ?_
    refine aw_getf (fg_9_12 (by omega)) ci_9 (by decide) w_349 dX6_reckon_20 ?_
    refine aw_aload_n 0 dX6_reckon_23 rfl rfl ?_
    refine aw_getf (fg_6_1 (by omega)) ci_6 (by decide) w_542 dX6_reckon_24 ?_
    refine aw_iaload (ar_9_7 (by omega)) dX6_reckon_27 (fun v_2 => ?_)
    refine aw_iconst 1 dX6_reckon_28 (by decide) ?_
    refine aw_icmp_ne 36 dX6_reckon_29 (by decide) ?_ ?_
    · refine aw_iconst 0 dX6_reckon_36 (by decide) ?_
      exact c6_reckon_p37 σ t0 (by omega) t1 (by omega) v_1 false
    · refine aw_iconst 1 dX6_reckon_32 (by decide) ?_
      refine aw_goto 37 dX6_reckon_33 (by decide) ?_
      exact c6_reckon_p37 σ t0 (by omega) t1 (by omega) v_1 true
  · refine aw_aload_n 0 dX6_reckon_13 rfl rfl ?_
    refine aw_iconst 1 dX6_reckon_14 (by decide) ?_
    refine aw_putI (fs_6_8 (by omega)) ci_6 (by decide) rfl rfl w_564 dX6_reckon_15 ?_
    refine aw_bndM (fun s_11 => ?_)
    exact aw_return rfl dX6_reckon_18
def F11_wrongFlight (σ : Mem) (x1 : Int32) (x2 : Int32) (x3 : Int32) : Option (Int32 × Mem) :=
  (F11_isPea σ x1).bind fun v_1 => if v_1 = true then (if (F11_within x2 1 40) = true then (if (F11_within x3 0 20) = true then (bd (F11_takeShot σ (-1) x1 x2 0 0 0) fun _ s_2 => bnd (sI s_2 6 0 0 6 x3) fun s_3 => gd 5 (gR s_3 11 0 0 5) fun t_4 => bd (F6_reckon s_3 0 t_4) fun _ s_5 => some (0, s_5)) else (some (5, σ))) else (some (5, σ))) else (some (2, σ))
set_option maxRecDepth 20000 in
theorem c11_wrongFlight {l : Launch} {D : va_G} {ad : Nat → Nat → Nat → Nat} {cid : Nat → Nat → Nat → ClassId} (σ : Mem) (x1 : Int32) (x2 : Int32) (x3 : Int32) : AMF (XC l D ad cid) M11_wrongFlight 4 eI [.ref (ad 11 0 0), .int x1, .int x2, .int x3] σ (F11_wrongFlight σ x1 x2 x3) := by
  refine AM.ofW (by decide +kernel) (Nat.le_of_ble_eq_true rfl) (ls := [(0, .ref (ad 11 0 0)), (1, .int x1), (2, .int x2), (3, .int x3)]) rfl ?_
  refine aw_entry ?_
  unfold F11_wrongFlight
  refine aw_aload_n 0 dX11_wrongFlight_0 rfl rfl ?_
  refine aw_iload_n 1 dX11_wrongFlight_1 rfl rfl ?_
  refine aw_callVO_B (c11_isPea σ x1) (io_11 (by decide)) ci_11 (by decide) mk_11_isPea w_1047 w_22 w_1045 rfl rfl (Nat.le_of_ble_eq_true rfl) dX11_wrongFlight_2 (fun v_1 => ?_)
  refine aw_bif_ne 10 dX11_wrongFlight_5 (by decide) ?_ ?_
  · refine aw_iload_n 2 dX11_wrongFlight_10 rfl rfl ?_
    refine aw_iconst 1 dX11_wrongFlight_11 (by decide) ?_
    refine aw_bipush 40 dX11_wrongFlight_12 (by decide) ?_
    refine aw_callST_B (c11_within σ x2 1 40) (by decide) mk_11_within w_798 w_797 rfl rfl (Nat.le_of_ble_eq_true rfl) dX11_wrongFlight_14 ?_
    refine aw_bif_eq 30 dX11_wrongFlight_17 (by decide) ?_ ?_
    · refine aw_iconst 5 dX11_wrongFlight_30 (by decide) ?_
      exact aw_ireturn rfl dX11_wrongFlight_31
    · refine aw_iload_n 3 dX11_wrongFlight_20 rfl rfl ?_
      refine aw_iconst 0 dX11_wrongFlight_21 (by decide) ?_
      refine aw_bipush 20 dX11_wrongFlight_22 (by decide) ?_
      refine aw_callST_B (c11_within σ x3 0 20) (by decide) mk_11_within w_798 w_797 rfl rfl (Nat.le_of_ble_eq_true rfl) dX11_wrongFlight_24 ?_
      refine aw_bif_ne 32 dX11_wrongFlight_27 (by decide) ?_ ?_
      · refine aw_aload_n 0 dX11_wrongFlight_32 rfl rfl ?_
        refine aw_iconst (-1) dX11_wrongFlight_33 (by decide) ?_
        refine aw_iload_n 1 dX11_wrongFlight_34 rfl rfl ?_
        refine aw_iload_n 2 dX11_wrongFlight_35 rfl rfl ?_
        refine aw_iconst 0 dX11_wrongFlight_36 (by decide) ?_
        refine aw_iconst 0 dX11_wrongFlight_37 (by decide) ?_
        refine aw_iconst 0 dX11_wrongFlight_38 (by decide) ?_
        refine aw_callVW_U (c11_takeShot σ (-1) x1 x2 0 0 0) (io_11 (by decide)) ci_11 (by decide) mk_11_takeShot w_1080 w_25 w_1078 rfl rfl (Nat.le_of_ble_eq_true rfl) dX11_wrongFlight_39 (fun _ s_2 => ?_)
        refine aw_aload_n 0 dX11_wrongFlight_42 rfl rfl ?_
        refine aw_getf (fg_11_13 (by decide)) ci_11 (by decide) w_730 dX11_wrongFlight_43 ?_
        refine aw_iload_n 3 dX11_wrongFlight_46 rfl rfl ?_
        refine aw_putI (fs_6_6 (by decide)) ci_6 (by decide) rfl rfl w_560 dX11_wrongFlight_47 ?_
        refine aw_bndM (fun s_3 => ?_)
        refine aw_aload_n 0 dX11_wrongFlight_50 rfl rfl ?_
        refine aw_getf (fg_11_13 (by decide)) ci_11 (by decide) w_730 dX11_wrongFlight_51 ?_
        refine aw_aload_n 0 dX11_wrongFlight_54 rfl rfl ?_
        refine aw_getf (fg_11_5 (by decide)) ci_11 (by decide) w_722 dX11_wrongFlight_55 ?_
        refine aw_gd (n := 5) (fun t_4 ht_4 => ?_)
        refine aw_callVW_U (c6_reckon s_3 0 (by decide) t_4 (by omega)) (io_6 (by decide)) ci_6 (by decide) mk_6_reckon w_1083 w_1084 w_1082 rfl rfl (Nat.le_of_ble_eq_true rfl) dX11_wrongFlight_58 (fun _ s_5 => ?_)
        refine aw_iconst 0 dX11_wrongFlight_61 (by decide) ?_
        exact aw_ireturn rfl dX11_wrongFlight_62
      · refine aw_iconst 5 dX11_wrongFlight_30 (by decide) ?_
        exact aw_ireturn rfl dX11_wrongFlight_31
  · refine aw_iconst 2 dX11_wrongFlight_8 (by decide) ?_
    exact aw_ireturn rfl dX11_wrongFlight_9
def F11_pace (σ : Mem) (x1 : Int32) (x2 : Int32) (x3 : Int32) : Option (Int32 × Mem) :=
  bd (F11_wrongFlight σ x1 x2 x3) fun v_1 s_2 => if v_1 = 0 then (if (gI s_2 6 0 0 8) = 0 then (bd (F11_answer s_2 (gI s_2 6 0 0 9)) fun v_5 s_6 => some (v_5, s_6)) else (bd (F11_refuse s_2 9) fun v_3 s_4 => some (v_3, s_4))) else (bd (F11_refuse s_2 v_1) fun v_7 s_8 => some (v_7, s_8))
set_option maxRecDepth 20000 in
theorem c11_pace {l : Launch} {D : va_G} {ad : Nat → Nat → Nat → Nat} {cid : Nat → Nat → Nat → ClassId} (σ : Mem) (x1 : Int32) (x2 : Int32) (x3 : Int32) : AMF (XC l D ad cid) M11_pace 5 eI [.ref (ad 11 0 0), .int x1, .int x2, .int x3] σ (F11_pace σ x1 x2 x3) := by
  refine AM.ofW (by decide +kernel) (Nat.le_of_ble_eq_true rfl) (ls := [(0, .ref (ad 11 0 0)), (1, .int x1), (2, .int x2), (3, .int x3)]) rfl ?_
  refine aw_entry ?_
  unfold F11_pace
  refine aw_aload_n 0 dX11_pace_0 rfl rfl ?_
  refine aw_iload_n 1 dX11_pace_1 rfl rfl ?_
  refine aw_iload_n 2 dX11_pace_2 rfl rfl ?_
  refine aw_iload_n 3 dX11_pace_3 rfl rfl ?_
  refine aw_callVW_I (c11_wrongFlight σ x1 x2 x3) (io_11 (by decide)) ci_11 (by decide) mk_11_wrongFlight w_1076 w_24 w_1074 rfl rfl (Nat.le_of_ble_eq_true rfl) dX11_pace_4 (fun v_1 s_2 => ?_)
  refine aw_istore (ls' := [(0, .ref (ad 11 0 0)), (4, .int v_1)]) [1, 0] dX11_pace_7 (by decide) rfl ?_
  refine aw_iload 1 dX11_pace_9 rfl ?_
  refine aw_if_eq 21 dX11_pace_11 (by decide) ?_ ?_
  · refine aw_aload_n 0 dX11_pace_21 rfl rfl ?_
    refine aw_getf (fg_11_13 (by decide)) ci_11 (by decide) w_730 dX11_pace_22 ?_
    refine aw_getf (fg_6_8 (by decide)) ci_6 (by decide) w_568 dX11_pace_25 ?_
    refine aw_if_ne 45 dX11_pace_28 (by decide) ?_ ?_
    · refine aw_aload_n 0 dX11_pace_45 rfl rfl ?_
      refine aw_bipush 9 dX11_pace_46 (by decide) ?_
      refine aw_callVW_I (c11_refuse s_2 9) (io_11 (by decide)) ci_11 (by decide) mk_11_refuse w_838 w_3 w_836 rfl rfl (Nat.le_of_ble_eq_true rfl) dX11_pace_48 (fun v_3 s_4 => ?_)
      exact aw_ireturn rfl dX11_pace_51
    · refine aw_aload_n 0 dX11_pace_31 rfl rfl ?_
      refine aw_aload_n 0 dX11_pace_32 rfl rfl ?_
      refine aw_getf (fg_11_13 (by decide)) ci_11 (by decide) w_730 dX11_pace_33 ?_
      refine aw_getf (fg_6_9 (by decide)) ci_6 (by decide) w_570 dX11_pace_36 ?_
      refine aw_callVW_I (c11_answer s_2 (gI s_2 6 0 0 9)) (io_11 (by decide)) ci_11 (by decide) mk_11_answer w_975 w_15 w_973 rfl rfl (Nat.le_of_ble_eq_true rfl) dX11_pace_39 (fun v_5 s_6 => ?_)
      refine aw_goto 51 dX11_pace_42 (by decide) ?_
      exact aw_ireturn rfl dX11_pace_51
  · refine aw_aload_n 0 dX11_pace_14 rfl rfl ?_
    refine aw_iload 1 dX11_pace_15 rfl ?_
    refine aw_callVW_I (c11_refuse s_2 v_1) (io_11 (by decide)) ci_11 (by decide) mk_11_refuse w_838 w_3 w_836 rfl rfl (Nat.le_of_ble_eq_true rfl) dX11_pace_17 (fun v_7 s_8 => ?_)
    exact aw_ireturn rfl dX11_pace_20
def F11_flight (σ : Mem) (x1 : Int32) (x2 : Int32) (x3 : Int32) (x4 : Int32) : Option (Int32 × Mem) :=
  bd (F11_wrongFlight σ x1 x2 x3) fun v_1 s_2 => if v_1 = 0 then (if (F11_within x4 0 3) = true then (if (gI s_2 6 0 0 8) = 0 then (if x4 = 0 then (bd (F11_answer s_2 (gI s_2 6 0 0 10)) fun v_4 s_5 => some (v_4, s_5)) else if x4 = 1 then (bd (F11_answer s_2 (gI s_2 6 0 0 11)) fun v_7 s_8 => some (v_7, s_8)) else if x4 = 2 then (bd (F11_answer s_2 (gI s_2 6 0 0 12)) fun v_10 s_11 => some (v_10, s_11)) else (bd (F11_answer s_2 (gI s_2 6 0 0 13)) fun v_12 s_13 => some (v_12, s_13))) else (bd (F11_refuse s_2 9) fun v_14 s_15 => some (v_14, s_15))) else (bd (F11_refuse s_2 5) fun v_16 s_17 => some (v_16, s_17))) else (bd (F11_refuse s_2 v_1) fun v_18 s_19 => some (v_18, s_19))
set_option maxRecDepth 20000 in
theorem c11_flight {l : Launch} {D : va_G} {ad : Nat → Nat → Nat → Nat} {cid : Nat → Nat → Nat → ClassId} (σ : Mem) (x1 : Int32) (x2 : Int32) (x3 : Int32) (x4 : Int32) : AMF (XC l D ad cid) M11_flight 5 eI [.ref (ad 11 0 0), .int x1, .int x2, .int x3, .int x4] σ (F11_flight σ x1 x2 x3 x4) := by
  refine AM.ofW (by decide +kernel) (Nat.le_of_ble_eq_true rfl) (ls := [(0, .ref (ad 11 0 0)), (1, .int x1), (2, .int x2), (3, .int x3), (4, .int x4)]) rfl ?_
  refine aw_entry ?_
  unfold F11_flight
  refine aw_aload_n 0 dX11_flight_0 rfl rfl ?_
  refine aw_iload_n 1 dX11_flight_1 rfl rfl ?_
  refine aw_iload_n 2 dX11_flight_2 rfl rfl ?_
  refine aw_iload_n 3 dX11_flight_3 rfl rfl ?_
  refine aw_callVW_I (c11_wrongFlight σ x1 x2 x3) (io_11 (by decide)) ci_11 (by decide) mk_11_wrongFlight w_1076 w_24 w_1074 rfl rfl (Nat.le_of_ble_eq_true rfl) dX11_flight_4 (fun v_1 s_2 => ?_)
  refine aw_istore (ls' := [(0, .ref (ad 11 0 0)), (4, .int x4), (5, .int v_1)]) [1, 5, 0] dX11_flight_7 (by decide) rfl ?_
  refine aw_iload 2 dX11_flight_9 rfl ?_
  refine aw_if_eq 21 dX11_flight_11 (by decide) ?_ ?_
  · refine aw_iload 1 dX11_flight_21 rfl ?_
    refine aw_iconst 0 dX11_flight_23 (by decide) ?_
    refine aw_iconst 3 dX11_flight_24 (by decide) ?_
    refine aw_callST_B (c11_within s_2 x4 0 3) (by decide) mk_11_within w_798 w_797 rfl rfl (Nat.le_of_ble_eq_true rfl) dX11_flight_25 ?_
    refine aw_bif_ne 37 dX11_flight_28 (by decide) ?_ ?_
    · refine aw_aload_n 0 dX11_flight_37 rfl rfl ?_
      refine aw_getf (fg_11_13 (by decide)) ci_11 (by decide) w_730 dX11_flight_38 ?_
      refine aw_getf (fg_6_8 (by decide)) ci_6 (by decide) w_568 dX11_flight_41 ?_
      refine aw_if_eq 54 dX11_flight_44 (by decide) ?_ ?_
      · refine aw_iload 1 dX11_flight_54 rfl ?_
        refine aw_case (c := 0) (fun h_3 => ?_) (fun h_3 => ?_)
        · refine aw_tabIn 84 h_3 dX11_flight_56 (by decide) (by decide) rfl (by decide) ?_
          refine aw_aload_n 0 dX11_flight_84 rfl rfl ?_
          refine aw_aload_n 0 dX11_flight_85 rfl rfl ?_
          refine aw_getf (fg_11_13 (by decide)) ci_11 (by decide) w_730 dX11_flight_86 ?_
          refine aw_getf (fg_6_10 (by decide)) ci_6 (by decide) w_572 dX11_flight_89 ?_
          refine aw_callVW_I (c11_answer s_2 (gI s_2 6 0 0 10)) (io_11 (by decide)) ci_11 (by decide) mk_11_answer w_975 w_15 w_973 rfl rfl (Nat.le_of_ble_eq_true rfl) dX11_flight_92 (fun v_4 s_5 => ?_)
          exact aw_ireturn rfl dX11_flight_95
        refine aw_case (c := 1) (fun h_6 => ?_) (fun h_6 => ?_)
        · refine aw_tabIn 96 h_6 dX11_flight_56 (by decide) (by decide) rfl (by decide) ?_
          refine aw_aload_n 0 dX11_flight_96 rfl rfl ?_
          refine aw_aload_n 0 dX11_flight_97 rfl rfl ?_
          refine aw_getf (fg_11_13 (by decide)) ci_11 (by decide) w_730 dX11_flight_98 ?_
          refine aw_getf (fg_6_11 (by decide)) ci_6 (by decide) w_574 dX11_flight_101 ?_
          refine aw_callVW_I (c11_answer s_2 (gI s_2 6 0 0 11)) (io_11 (by decide)) ci_11 (by decide) mk_11_answer w_975 w_15 w_973 rfl rfl (Nat.le_of_ble_eq_true rfl) dX11_flight_104 (fun v_7 s_8 => ?_)
          exact aw_ireturn rfl dX11_flight_107
        refine aw_case (c := 2) (fun h_9 => ?_) (fun h_9 => ?_)
        · refine aw_tabIn 108 h_9 dX11_flight_56 (by decide) (by decide) rfl (by decide) ?_
          refine aw_aload_n 0 dX11_flight_108 rfl rfl ?_
          refine aw_aload_n 0 dX11_flight_109 rfl rfl ?_
          refine aw_getf (fg_11_13 (by decide)) ci_11 (by decide) w_730 dX11_flight_110 ?_
          refine aw_getf (fg_6_12 (by decide)) ci_6 (by decide) w_576 dX11_flight_113 ?_
          refine aw_callVW_I (c11_answer s_2 (gI s_2 6 0 0 12)) (io_11 (by decide)) ci_11 (by decide) mk_11_answer w_975 w_15 w_973 rfl rfl (Nat.le_of_ble_eq_true rfl) dX11_flight_116 (fun v_10 s_11 => ?_)
          exact aw_ireturn rfl dX11_flight_119
        refine aw_tabOut 120 dX11_flight_56 (by have eh_3 : x4.toInt ≠ 0 := ne_toInt h_3; have eh_6 : x4.toInt ≠ 1 := ne_toInt h_6; have eh_9 : x4.toInt ≠ 2 := ne_toInt h_9; omega) (by decide) ?_
        refine aw_aload_n 0 dX11_flight_120 rfl rfl ?_
        refine aw_aload_n 0 dX11_flight_121 rfl rfl ?_
        refine aw_getf (fg_11_13 (by decide)) ci_11 (by decide) w_730 dX11_flight_122 ?_
        refine aw_getf (fg_6_13 (by decide)) ci_6 (by decide) w_581 dX11_flight_125 ?_
        refine aw_callVW_I (c11_answer s_2 (gI s_2 6 0 0 13)) (io_11 (by decide)) ci_11 (by decide) mk_11_answer w_975 w_15 w_973 rfl rfl (Nat.le_of_ble_eq_true rfl) dX11_flight_128 (fun v_12 s_13 => ?_)
        exact aw_ireturn rfl dX11_flight_131
      · refine aw_aload_n 0 dX11_flight_47 rfl rfl ?_
        refine aw_bipush 9 dX11_flight_48 (by decide) ?_
        refine aw_callVW_I (c11_refuse s_2 9) (io_11 (by decide)) ci_11 (by decide) mk_11_refuse w_838 w_3 w_836 rfl rfl (Nat.le_of_ble_eq_true rfl) dX11_flight_50 (fun v_14 s_15 => ?_)
        exact aw_ireturn rfl dX11_flight_53
    · refine aw_aload_n 0 dX11_flight_31 rfl rfl ?_
      refine aw_iconst 5 dX11_flight_32 (by decide) ?_
      refine aw_callVW_I (c11_refuse s_2 5) (io_11 (by decide)) ci_11 (by decide) mk_11_refuse w_838 w_3 w_836 rfl rfl (Nat.le_of_ble_eq_true rfl) dX11_flight_33 (fun v_16 s_17 => ?_)
      exact aw_ireturn rfl dX11_flight_36
  · refine aw_aload_n 0 dX11_flight_14 rfl rfl ?_
    refine aw_iload 2 dX11_flight_15 rfl ?_
    refine aw_callVW_I (c11_refuse s_2 v_1) (io_11 (by decide)) ci_11 (by decide) mk_11_refuse w_838 w_3 w_836 rfl rfl (Nat.le_of_ble_eq_true rfl) dX11_flight_17 (fun v_18 s_19 => ?_)
    exact aw_ireturn rfl dX11_flight_20
def F11_becomes (σ : Mem) (x1 : Int32) (x2 : Int32) (x3 : Int32) : Option (Int32 × Mem) :=
  bd (F11_wrongFlight σ x1 x2 x3) fun v_1 s_2 => if v_1 = 0 then (bd (F11_answer s_2 (gI s_2 6 0 0 8)) fun v_3 s_4 => some (v_3, s_4)) else (bd (F11_refuse s_2 v_1) fun v_5 s_6 => some (v_5, s_6))
set_option maxRecDepth 20000 in
theorem c11_becomes {l : Launch} {D : va_G} {ad : Nat → Nat → Nat → Nat} {cid : Nat → Nat → Nat → ClassId} (σ : Mem) (x1 : Int32) (x2 : Int32) (x3 : Int32) : AMF (XC l D ad cid) M11_becomes 5 eI [.ref (ad 11 0 0), .int x1, .int x2, .int x3] σ (F11_becomes σ x1 x2 x3) := by
  refine AM.ofW (by decide +kernel) (Nat.le_of_ble_eq_true rfl) (ls := [(0, .ref (ad 11 0 0)), (1, .int x1), (2, .int x2), (3, .int x3)]) rfl ?_
  refine aw_entry ?_
  unfold F11_becomes
  refine aw_aload_n 0 dX11_becomes_0 rfl rfl ?_
  refine aw_iload_n 1 dX11_becomes_1 rfl rfl ?_
  refine aw_iload_n 2 dX11_becomes_2 rfl rfl ?_
  refine aw_iload_n 3 dX11_becomes_3 rfl rfl ?_
  refine aw_callVW_I (c11_wrongFlight σ x1 x2 x3) (io_11 (by decide)) ci_11 (by decide) mk_11_wrongFlight w_1076 w_24 w_1074 rfl rfl (Nat.le_of_ble_eq_true rfl) dX11_becomes_4 (fun v_1 s_2 => ?_)
  refine aw_istore (ls' := [(0, .ref (ad 11 0 0)), (4, .int v_1)]) [1, 0] dX11_becomes_7 (by decide) rfl ?_
  refine aw_iload 1 dX11_becomes_9 rfl ?_
  refine aw_if_eq 21 dX11_becomes_11 (by decide) ?_ ?_
  · refine aw_aload_n 0 dX11_becomes_21 rfl rfl ?_
    refine aw_aload_n 0 dX11_becomes_22 rfl rfl ?_
    refine aw_getf (fg_11_13 (by decide)) ci_11 (by decide) w_730 dX11_becomes_23 ?_
    refine aw_getf (fg_6_8 (by decide)) ci_6 (by decide) w_568 dX11_becomes_26 ?_
    refine aw_callVW_I (c11_answer s_2 (gI s_2 6 0 0 8)) (io_11 (by decide)) ci_11 (by decide) mk_11_answer w_975 w_15 w_973 rfl rfl (Nat.le_of_ble_eq_true rfl) dX11_becomes_29 (fun v_3 s_4 => ?_)
    exact aw_ireturn rfl dX11_becomes_32
  · refine aw_aload_n 0 dX11_becomes_14 rfl rfl ?_
    refine aw_iload 1 dX11_becomes_15 rfl ?_
    refine aw_callVW_I (c11_refuse s_2 v_1) (io_11 (by decide)) ci_11 (by decide) mk_11_refuse w_838 w_3 w_836 rfl rfl (Nat.le_of_ble_eq_true rfl) dX11_becomes_17 (fun v_5 s_6 => ?_)
    exact aw_ireturn rfl dX11_becomes_20
def F11_wrongShot_p74 (σ : Mem) (q0 : Bool) : Option Int32 :=
  if q0 = true then (some 0) else (some 5)
set_option maxRecDepth 20000 in
theorem c11_wrongShot_p74 {l : Launch} {D : va_G} {ad : Nat → Nat → Nat → Nat} {cid : Nat → Nat → Nat → ClassId} (σ : Mem) (q0 : Bool) : AW (XC l D ad cid) M11_wrongShot 2 eI [] 74 [.int (b2i q0)] σ ((F11_wrongShot_p74 σ q0).bind (fun v => some (v, σ))) := by
  unfold F11_wrongShot_p74
  refine aw_istore (ls' := [(7, .int (b2i q0))]) [0] dX11_wrongShot_74 (by decide) rfl ?_
  refine aw_iload 0 dX11_wrongShot_76 rfl ?_
  refine aw_bif_eq 85 dX11_wrongShot_78 (by decide) ?_ ?_
  · refine aw_iconst 5 dX11_wrongShot_85 (by decide) ?_
    exact aw_ireturn rfl dX11_wrongShot_86
  · refine aw_iconst 0 dX11_wrongShot_81 (by decide) ?_
    refine aw_goto 86 dX11_wrongShot_82 (by decide) ?_
    exact aw_ireturn rfl dX11_wrongShot_86
def F11_wrongShot (σ : Mem) (x1 : Int32) (x2 : Int32) (x3 : Int32) (x4 : Int32) (x5 : Int32) (x6 : Int32) : Option Int32 :=
  (F11_isShooter σ x1).bind fun v_1 => if v_1 = true then ((F11_isPea σ x2).bind fun v_2 => if v_2 = true then (gd 5 (gR σ 11 0 0 5) fun t_3 => (ald 6 (gI σ 9 t_3 9) x1).bind fun v_4 => if (F11_within x3 1 v_4) = true then (if (F11_within x4 0 3) = true then (if (F11_within x5 (-60) 60) = true then (if (F11_within x6 (-60) 60) = true then (F11_wrongShot_p74 σ true) else (F11_wrongShot_p74 σ false)) else (F11_wrongShot_p74 σ false)) else (F11_wrongShot_p74 σ false)) else (F11_wrongShot_p74 σ false)) else (some 2)) else (some 2)
set_option maxRecDepth 20000 in
theorem c11_wrongShot {l : Launch} {D : va_G} {ad : Nat → Nat → Nat → Nat} {cid : Nat → Nat → Nat → ClassId} (σ : Mem) (x1 : Int32) (x2 : Int32) (x3 : Int32) (x4 : Int32) (x5 : Int32) (x6 : Int32) : AMF (XC l D ad cid) M11_wrongShot 2 eI [.ref (ad 11 0 0), .int x1, .int x2, .int x3, .int x4, .int x5, .int x6] σ (oM σ (F11_wrongShot σ x1 x2 x3 x4 x5 x6)) := by
  refine AM.ofW (by decide +kernel) (Nat.le_of_ble_eq_true rfl) (ls := [(0, .ref (ad 11 0 0)), (1, .int x1), (2, .int x2), (3, .int x3), (4, .int x4), (5, .int x5), (6, .int x6)]) rfl ?_
  refine aw_entryO ?_
  unfold F11_wrongShot
  refine aw_aload_n 0 dX11_wrongShot_0 rfl rfl ?_
  refine aw_iload_n 1 dX11_wrongShot_1 rfl rfl ?_
  refine aw_callVO_B (c11_isShooter σ x1) (io_11 (by decide)) ci_11 (by decide) mk_11_isShooter w_1064 w_23 w_1062 rfl rfl (Nat.le_of_ble_eq_true rfl) dX11_wrongShot_2 (fun v_1 => ?_)
  refine aw_bif_eq 16 dX11_wrongShot_5 (by decide) ?_ ?_
  · refine aw_iconst 2 dX11_wrongShot_16 (by decide) ?_
    exact aw_ireturn rfl dX11_wrongShot_17
  · refine aw_aload_n 0 dX11_wrongShot_8 rfl rfl ?_
    refine aw_iload_n 2 dX11_wrongShot_9 rfl rfl ?_
    refine aw_callVO_B (c11_isPea σ x2) (io_11 (by decide)) ci_11 (by decide) mk_11_isPea w_1047 w_22 w_1045 rfl rfl (Nat.le_of_ble_eq_true rfl) dX11_wrongShot_10 (fun v_2 => ?_)
    refine aw_bif_ne 18 dX11_wrongShot_13 (by decide) ?_ ?_
    · refine aw_iload_n 3 dX11_wrongShot_18 rfl rfl ?_
      refine aw_iconst 1 dX11_wrongShot_19 (by decide) ?_
      refine aw_aload_n 0 dX11_wrongShot_20 rfl rfl ?_
      refine aw_getf (fg_11_5 (by decide)) ci_11 (by decide) w_722 dX11_wrongShot_21 ?_
      refine aw_gd (n := 5) (fun t_3 ht_3 => ?_)
      refine aw_getf (fg_9_15 (by omega)) ci_9 (by decide) w_357 dX11_wrongShot_24 ?_
      refine aw_iload_n 1 dX11_wrongShot_27 rfl rfl ?_
      refine aw_iaload (ar_9_9 (by omega)) dX11_wrongShot_28 (fun v_4 => ?_)
      refine aw_callST_B (c11_within σ x3 1 v_4) (by decide) mk_11_within w_798 w_797 rfl rfl (Nat.le_of_ble_eq_true rfl) dX11_wrongShot_29 ?_
      refine aw_bif_eq 73 dX11_wrongShot_32 (by decide) ?_ ?_
      · refine aw_iconst 0 dX11_wrongShot_73 (by decide) ?_
        refine aw_ls (ls' := []) [] rfl ?_
        exact c11_wrongShot_p74 σ false
      · refine aw_iload 4 dX11_wrongShot_35 rfl ?_
        refine aw_iconst 0 dX11_wrongShot_37 (by decide) ?_
        refine aw_iconst 3 dX11_wrongShot_38 (by decide) ?_
        refine aw_callST_B (c11_within σ x4 0 3) (by decide) mk_11_within w_798 w_797 rfl rfl (Nat.le_of_ble_eq_true rfl) dX11_wrongShot_39 ?_
        refine aw_bif_eq 73 dX11_wrongShot_42 (by decide) ?_ ?_
        · refine aw_iconst 0 dX11_wrongShot_73 (by decide) ?_
          refine aw_ls (ls' := []) [] rfl ?_
          exact c11_wrongShot_p74 σ false
        · refine aw_iload 5 dX11_wrongShot_45 rfl ?_
          refine aw_bipush (-60) dX11_wrongShot_47 (by decide) ?_
          refine aw_bipush 60 dX11_wrongShot_49 (by decide) ?_
          refine aw_callST_B (c11_within σ x5 (-60) 60) (by decide) mk_11_within w_798 w_797 rfl rfl (Nat.le_of_ble_eq_true rfl) dX11_wrongShot_51 ?_
          refine aw_bif_eq 73 dX11_wrongShot_54 (by decide) ?_ ?_
          · refine aw_iconst 0 dX11_wrongShot_73 (by decide) ?_
            refine aw_ls (ls' := []) [] rfl ?_
            exact c11_wrongShot_p74 σ false
          · refine aw_iload 6 dX11_wrongShot_57 rfl ?_
            refine aw_bipush (-60) dX11_wrongShot_59 (by decide) ?_
            refine aw_bipush 60 dX11_wrongShot_61 (by decide) ?_
            refine aw_callST_B (c11_within σ x6 (-60) 60) (by decide) mk_11_within w_798 w_797 rfl rfl (Nat.le_of_ble_eq_true rfl) dX11_wrongShot_63 ?_
            refine aw_bif_eq 73 dX11_wrongShot_66 (by decide) ?_ ?_
            · refine aw_iconst 0 dX11_wrongShot_73 (by decide) ?_
              refine aw_ls (ls' := []) [] rfl ?_
              exact c11_wrongShot_p74 σ false
            · refine aw_iconst 1 dX11_wrongShot_69 (by decide) ?_
              refine aw_goto 74 dX11_wrongShot_70 (by decide) ?_
              refine aw_ls (ls' := []) [] rfl ?_
              exact c11_wrongShot_p74 σ true
    · refine aw_iconst 2 dX11_wrongShot_16 (by decide) ?_
      exact aw_ireturn rfl dX11_wrongShot_17
def F6_strikeX (σ : Mem) (t0 : Nat) (t1 : Nat) (x2 : Int32) : Option Int32 :=
  (ald 6 (gI σ 9 t1 11) (gI σ 6 t0 0 0)).bind fun v_1 => some ((((gI σ 6 t0 0 4) + v_1) + (gI σ 6 t0 0 12)) + (x2 * (gI σ 6 t0 0 13)))
set_option maxRecDepth 20000 in
theorem c6_strikeX {l : Launch} {D : va_G} {ad : Nat → Nat → Nat → Nat} {cid : Nat → Nat → Nat → ClassId} (σ : Mem) (t0 : Nat) (ht0 : t0 < 3) (t1 : Nat) (ht1 : t1 < 5) (x2 : Int32) : AMF (XC l D ad cid) M6_strikeX 0 eI [.ref (ad 6 t0 0), .ref (ad 9 t1 0), .int x2] σ (oM σ (F6_strikeX σ t0 t1 x2)) := by
  refine AM.ofW (by decide +kernel) (Nat.le_of_ble_eq_true rfl) (ls := [(0, .ref (ad 6 t0 0)), (1, .ref (ad 9 t1 0)), (2, .int x2)]) rfl ?_
  refine aw_entryO ?_
  unfold F6_strikeX
  refine aw_aload_n 0 dX6_strikeX_0 rfl rfl ?_
  refine aw_getf (fg_6_4 (by omega)) ci_6 (by decide) w_553 dX6_strikeX_1 ?_
  refine aw_aload_n 1 dX6_strikeX_4 rfl rfl ?_
  refine aw_getf (fg_9_17 (by omega)) ci_9 (by decide) w_361 dX6_strikeX_5 ?_
  refine aw_aload_n 0 dX6_strikeX_8 rfl rfl ?_
  refine aw_getf (fg_6_0 (by omega)) ci_6 (by decide) w_539 dX6_strikeX_9 ?_
  refine aw_iaload (ar_9_11 (by omega)) dX6_strikeX_12 (fun v_1 => ?_)
  refine aw_iadd dX6_strikeX_13 ?_
  refine aw_aload_n 0 dX6_strikeX_14 rfl rfl ?_
  refine aw_getf (fg_6_12 (by omega)) ci_6 (by decide) w_575 dX6_strikeX_15 ?_
  refine aw_iadd dX6_strikeX_18 ?_
  refine aw_iload_n 2 dX6_strikeX_19 rfl rfl ?_
  refine aw_aload_n 0 dX6_strikeX_20 rfl rfl ?_
  refine aw_getf (fg_6_13 (by omega)) ci_6 (by decide) w_579 dX6_strikeX_21 ?_
  refine aw_imul dX6_strikeX_24 ?_
  refine aw_iadd dX6_strikeX_25 ?_
  exact aw_ireturn rfl dX6_strikeX_26
def F6_strikeY (σ : Mem) (t0 : Nat) (t1 : Nat) : Option Int32 :=
  (ald 6 (gI σ 9 t1 12) (gI σ 6 t0 0 0)).bind fun v_1 => some (((gI σ 6 t0 0 5) + v_1) - (gI σ 6 t0 0 11))
set_option maxRecDepth 20000 in
theorem c6_strikeY {l : Launch} {D : va_G} {ad : Nat → Nat → Nat → Nat} {cid : Nat → Nat → Nat → ClassId} (σ : Mem) (t0 : Nat) (ht0 : t0 < 3) (t1 : Nat) (ht1 : t1 < 5) : AMF (XC l D ad cid) M6_strikeY 0 eI [.ref (ad 6 t0 0), .ref (ad 9 t1 0)] σ (oM σ (F6_strikeY σ t0 t1)) := by
  refine AM.ofW (by decide +kernel) (Nat.le_of_ble_eq_true rfl) (ls := [(0, .ref (ad 6 t0 0)), (1, .ref (ad 9 t1 0))]) rfl ?_
  refine aw_entryO ?_
  unfold F6_strikeY
  refine aw_aload_n 0 dX6_strikeY_0 rfl rfl ?_
  refine aw_getf (fg_6_5 (by omega)) ci_6 (by decide) w_556 dX6_strikeY_1 ?_
  refine aw_aload_n 1 dX6_strikeY_4 rfl rfl ?_
  refine aw_getf (fg_9_18 (by omega)) ci_9 (by decide) w_364 dX6_strikeY_5 ?_
  refine aw_aload_n 0 dX6_strikeY_8 rfl rfl ?_
  refine aw_getf (fg_6_0 (by omega)) ci_6 (by decide) w_539 dX6_strikeY_9 ?_
  refine aw_iaload (ar_9_12 (by omega)) dX6_strikeY_12 (fun v_1 => ?_)
  refine aw_iadd dX6_strikeY_13 ?_
  refine aw_aload_n 0 dX6_strikeY_14 rfl rfl ?_
  refine aw_getf (fg_6_11 (by omega)) ci_6 (by decide) w_573 dX6_strikeY_15 ?_
  refine aw_isub dX6_strikeY_18 ?_
  exact aw_ireturn rfl dX6_strikeY_19
def F11_strikes (σ : Mem) (x1 : Int32) (x2 : Int32) (x3 : Int32) (x4 : Int32) (x5 : Int32) (x6 : Int32) (x7 : Int32) : Option (Int32 × Mem) :=
  (F11_wrongShot σ x1 x2 x3 0 x4 x5).bind fun v_1 => if v_1 = 0 then (if (F11_within x6 (-1) 1) = true then (if (F11_within x7 0 1) = true then (bd (F11_takeShot σ x1 x2 x3 0 x4 x5) fun _ s_4 => gd 5 (gR s_4 11 0 0 5) fun t_5 => bd (F6_reckon s_4 0 t_5) fun _ s_6 => if (gI s_6 6 0 0 8) = 0 then (if x7 = 0 then (gd 5 (gR s_6 11 0 0 5) fun t_11 => (F6_strikeX s_6 0 t_11 x6).bind fun v_12 => bd (F11_answer s_6 v_12) fun v_13 s_14 => some (v_13, s_14)) else (gd 5 (gR s_6 11 0 0 5) fun t_7 => (F6_strikeY s_6 0 t_7).bind fun v_8 => bd (F11_answer s_6 v_8) fun v_9 s_10 => some (v_9, s_10))) else (bd (F11_refuse s_6 9) fun v_15 s_16 => some (v_15, s_16))) else (bd (F11_refuse σ 5) fun v_17 s_18 => some (v_17, s_18))) else (bd (F11_refuse σ 5) fun v_2 s_3 => some (v_2, s_3))) else (bd (F11_refuse σ v_1) fun v_19 s_20 => some (v_19, s_20))
set_option maxRecDepth 20000 in
theorem c11_strikes {l : Launch} {D : va_G} {ad : Nat → Nat → Nat → Nat} {cid : Nat → Nat → Nat → ClassId} (σ : Mem) (x1 : Int32) (x2 : Int32) (x3 : Int32) (x4 : Int32) (x5 : Int32) (x6 : Int32) (x7 : Int32) : AMF (XC l D ad cid) M11_strikes 4 eI [.ref (ad 11 0 0), .int x1, .int x2, .int x3, .int x4, .int x5, .int x6, .int x7] σ (F11_strikes σ x1 x2 x3 x4 x5 x6 x7) := by
  refine AM.ofW (by decide +kernel) (Nat.le_of_ble_eq_true rfl) (ls := [(0, .ref (ad 11 0 0)), (1, .int x1), (2, .int x2), (3, .int x3), (4, .int x4), (5, .int x5), (6, .int x6), (7, .int x7)]) rfl ?_
  refine aw_entry ?_
  unfold F11_strikes
  refine aw_aload_n 0 dX11_strikes_0 rfl rfl ?_
  refine aw_iload_n 1 dX11_strikes_1 rfl rfl ?_
  refine aw_iload_n 2 dX11_strikes_2 rfl rfl ?_
  refine aw_iload_n 3 dX11_strikes_3 rfl rfl ?_
  refine aw_iconst 0 dX11_strikes_4 (by decide) ?_
  refine aw_iload 4 dX11_strikes_5 rfl ?_
  refine aw_iload 5 dX11_strikes_7 rfl ?_
  refine aw_callVO_I (c11_wrongShot σ x1 x2 x3 0 x4 x5) (io_11 (by decide)) ci_11 (by decide) mk_11_wrongShot w_1113 w_28 w_1111 rfl rfl (Nat.le_of_ble_eq_true rfl) dX11_strikes_9 (fun v_1 => ?_)
  refine aw_istore (ls' := [(0, .ref (ad 11 0 0)), (1, .int x1), (2, .int x2), (3, .int x3), (4, .int x4), (5, .int x5), (6, .int x6), (7, .int x7), (8, .int v_1)]) [1, 2, 3, 4, 5, 6, 7, 8, 0] dX11_strikes_12 (by decide) rfl ?_
  refine aw_iload 8 dX11_strikes_14 rfl ?_
  refine aw_if_eq 26 dX11_strikes_16 (by decide) ?_ ?_
  · refine aw_iload 6 dX11_strikes_26 rfl ?_
    refine aw_iconst (-1) dX11_strikes_28 (by decide) ?_
    refine aw_iconst 1 dX11_strikes_29 (by decide) ?_
    refine aw_callST_B (c11_within σ x6 (-1) 1) (by decide) mk_11_within w_798 w_797 rfl rfl (Nat.le_of_ble_eq_true rfl) dX11_strikes_30 ?_
    refine aw_bif_eq 46 dX11_strikes_33 (by decide) ?_ ?_
    · refine aw_aload_n 0 dX11_strikes_46 rfl rfl ?_
      refine aw_iconst 5 dX11_strikes_47 (by decide) ?_
      refine aw_callVW_I (c11_refuse σ 5) (io_11 (by decide)) ci_11 (by decide) mk_11_refuse w_838 w_3 w_836 rfl rfl (Nat.le_of_ble_eq_true rfl) dX11_strikes_48 (fun v_2 s_3 => ?_)
      exact aw_ireturn rfl dX11_strikes_51
    · refine aw_iload 7 dX11_strikes_36 rfl ?_
      refine aw_iconst 0 dX11_strikes_38 (by decide) ?_
      refine aw_iconst 1 dX11_strikes_39 (by decide) ?_
      refine aw_callST_B (c11_within σ x7 0 1) (by decide) mk_11_within w_798 w_797 rfl rfl (Nat.le_of_ble_eq_true rfl) dX11_strikes_40 ?_
      refine aw_bif_ne 52 dX11_strikes_43 (by decide) ?_ ?_
      · refine aw_aload_n 0 dX11_strikes_52 rfl rfl ?_
        refine aw_iload_n 1 dX11_strikes_53 rfl rfl ?_
        refine aw_iload_n 2 dX11_strikes_54 rfl rfl ?_
        refine aw_iload_n 3 dX11_strikes_55 rfl rfl ?_
        refine aw_iconst 0 dX11_strikes_56 (by decide) ?_
        refine aw_iload 4 dX11_strikes_57 rfl ?_
        refine aw_iload 5 dX11_strikes_59 rfl ?_
        refine aw_callVW_U (c11_takeShot σ x1 x2 x3 0 x4 x5) (io_11 (by decide)) ci_11 (by decide) mk_11_takeShot w_1080 w_25 w_1078 rfl rfl (Nat.le_of_ble_eq_true rfl) dX11_strikes_61 (fun _ s_4 => ?_)
        refine aw_aload_n 0 dX11_strikes_64 rfl rfl ?_
        refine aw_getf (fg_11_13 (by decide)) ci_11 (by decide) w_730 dX11_strikes_65 ?_
        refine aw_aload_n 0 dX11_strikes_68 rfl rfl ?_
        refine aw_getf (fg_11_5 (by decide)) ci_11 (by decide) w_722 dX11_strikes_69 ?_
        refine aw_gd (n := 5) (fun t_5 ht_5 => ?_)
        refine aw_callVW_U (c6_reckon s_4 0 (by decide) t_5 (by omega)) (io_6 (by decide)) ci_6 (by decide) mk_6_reckon w_1083 w_1084 w_1082 rfl rfl (Nat.le_of_ble_eq_true rfl) dX11_strikes_72 (fun _ s_6 => ?_)
        refine aw_aload_n 0 dX11_strikes_75 rfl rfl ?_
        refine aw_getf (fg_11_13 (by decide)) ci_11 (by decide) w_730 dX11_strikes_76 ?_
        refine aw_getf (fg_6_8 (by decide)) ci_6 (by decide) w_568 dX11_strikes_79 ?_
        refine aw_if_eq 92 dX11_strikes_82 (by decide) ?_ ?_
        · refine aw_aload_n 0 dX11_strikes_92 rfl rfl ?_
          refine aw_iload 7 dX11_strikes_93 rfl ?_
          refine aw_if_ne 114 dX11_strikes_95 (by decide) ?_ ?_
          · refine aw_aload_n 0 dX11_strikes_114 rfl rfl ?_
            refine aw_getf (fg_11_13 (by decide)) ci_11 (by decide) w_730 dX11_strikes_115 ?_
            refine aw_aload_n 0 dX11_strikes_118 rfl rfl ?_
            refine aw_getf (fg_11_5 (by decide)) ci_11 (by decide) w_722 dX11_strikes_119 ?_
            refine aw_gd (n := 5) (fun t_7 ht_7 => ?_)
            refine aw_callVO_I (c6_strikeY s_6 0 (by decide) t_7 (by omega)) (io_6 (by decide)) ci_6 (by decide) mk_6_strikeY w_1120 w_1121 w_1119 rfl rfl (Nat.le_of_ble_eq_true rfl) dX11_strikes_122 (fun v_8 => ?_)
            refine aw_callVW_I (c11_answer s_6 v_8) (io_11 (by decide)) ci_11 (by decide) mk_11_answer w_975 w_15 w_973 rfl rfl (Nat.le_of_ble_eq_true rfl) dX11_strikes_125 (fun v_9 s_10 => ?_)
            exact aw_ireturn rfl dX11_strikes_128
          · refine aw_aload_n 0 dX11_strikes_98 rfl rfl ?_
            refine aw_getf (fg_11_13 (by decide)) ci_11 (by decide) w_730 dX11_strikes_99 ?_
            refine aw_aload_n 0 dX11_strikes_102 rfl rfl ?_
            refine aw_getf (fg_11_5 (by decide)) ci_11 (by decide) w_722 dX11_strikes_103 ?_
            refine aw_gd (n := 5) (fun t_11 ht_11 => ?_)
            refine aw_iload 6 dX11_strikes_106 rfl ?_
            refine aw_callVO_I (c6_strikeX s_6 0 (by decide) t_11 (by omega) x6) (io_6 (by decide)) ci_6 (by decide) mk_6_strikeX w_1116 w_1117 w_1115 rfl rfl (Nat.le_of_ble_eq_true rfl) dX11_strikes_108 (fun v_12 => ?_)
            refine aw_goto 125 dX11_strikes_111 (by decide) ?_
            refine aw_callVW_I (c11_answer s_6 v_12) (io_11 (by decide)) ci_11 (by decide) mk_11_answer w_975 w_15 w_973 rfl rfl (Nat.le_of_ble_eq_true rfl) dX11_strikes_125 (fun v_13 s_14 => ?_)
            exact aw_ireturn rfl dX11_strikes_128
        · refine aw_aload_n 0 dX11_strikes_85 rfl rfl ?_
          refine aw_bipush 9 dX11_strikes_86 (by decide) ?_
          refine aw_callVW_I (c11_refuse s_6 9) (io_11 (by decide)) ci_11 (by decide) mk_11_refuse w_838 w_3 w_836 rfl rfl (Nat.le_of_ble_eq_true rfl) dX11_strikes_88 (fun v_15 s_16 => ?_)
          exact aw_ireturn rfl dX11_strikes_91
      · refine aw_aload_n 0 dX11_strikes_46 rfl rfl ?_
        refine aw_iconst 5 dX11_strikes_47 (by decide) ?_
        refine aw_callVW_I (c11_refuse σ 5) (io_11 (by decide)) ci_11 (by decide) mk_11_refuse w_838 w_3 w_836 rfl rfl (Nat.le_of_ble_eq_true rfl) dX11_strikes_48 (fun v_17 s_18 => ?_)
        exact aw_ireturn rfl dX11_strikes_51
  · refine aw_aload_n 0 dX11_strikes_19 rfl rfl ?_
    refine aw_iload 8 dX11_strikes_20 rfl ?_
    refine aw_callVW_I (c11_refuse σ v_1) (io_11 (by decide)) ci_11 (by decide) mk_11_refuse w_838 w_3 w_836 rfl rfl (Nat.le_of_ble_eq_true rfl) dX11_strikes_22 (fun v_19 s_20 => ?_)
    exact aw_ireturn rfl dX11_strikes_25
def F9_lastRing_L14 (σ : Mem) (t0 : Nat) (x3 : Int32) : Nat → Int32 → Int32 → Option (Int32)
  | 0 => fun _ _ => none
  | n + 1 => fun x4 x5 =>
    if (gI σ 9 t0 0 4) ≤ x5 then (some x4) else ((ald 6 (gI σ 9 t0 1) x5).bind fun v_2 => (ald 6 (gI σ 9 t0 1) x5).bind fun v_3 => if (v_2 * v_3) < x3 then (some x4) else ((F9_lastRing_L14 σ t0 x3 n) x5 (x5 + 1)))
set_option maxRecDepth 20000 in
theorem c9_lastRing_L14 {l : Launch} {D : va_G} {ad : Nat → Nat → Nat → Nat} {cid : Nat → Nat → Nat → ClassId} {α : Type} {emb : α → Option Value} (σ : Mem) (t0 : Nat) (ht0 : t0 < 5) (x3 : Int32) {G : Int32 → Option (α × Mem)} (kx : ∀ r, AW (XC l D ad cid) M9_lastRing 0 emb [(4, .int r)] 52 [] σ (G r)) : ∀ (n : Nat) (x4 : Int32) (x5 : Int32), AW (XC l D ad cid) M9_lastRing 0 emb [(0, .ref (ad 9 t0 0)), (3, .int x3), (4, .int x4), (5, .int x5)] 14 [] σ ((F9_lastRing_L14 σ t0 x3 n x4 x5).bind G) := by
  intro n
  induction n with
  | zero => intros; exact aw_none
  | succ n ih =>
    intro x4 x5
    rw [F9_lastRing_L14.eq_2]
    refine aw_iload 3 dX9_lastRing_14 rfl ?_
    refine aw_aload_n 0 dX9_lastRing_16 rfl rfl ?_
    refine aw_getf (fg_9_4 (by omega)) ci_9 (by decide) w_330 dX9_lastRing_17 ?_
    refine aw_icmp_ge 52 dX9_lastRing_20 (by decide) ?_ ?_
    · refine aw_ls (ls' := [(4, .int x4)]) [2] rfl ?_
      exact kx x4
    · refine aw_iload_n 1 dX9_lastRing_23 rfl rfl ?_
      refine aw_aload_n 0 dX9_lastRing_24 rfl rfl ?_
      refine aw_getf (fg_9_5 (by omega)) ci_9 (by decide) w_332 dX9_lastRing_25 ?_
      refine aw_iload 3 dX9_lastRing_28 rfl ?_
      refine aw_iaload (ar_9_1 (by omega)) dX9_lastRing_30 (fun v_2 => ?_)
      refine aw_aload_n 0 dX9_lastRing_31 rfl rfl ?_
      refine aw_getf (fg_9_5 (by omega)) ci_9 (by decide) w_332 dX9_lastRing_32 ?_
      refine aw_iload 3 dX9_lastRing_35 rfl ?_
      refine aw_iaload (ar_9_1 (by omega)) dX9_lastRing_37 (fun v_3 => ?_)
      refine aw_imul dX9_lastRing_38 ?_
      refine aw_icmp_gt 52 dX9_lastRing_39 (by decide) ?_ ?_
      · refine aw_ls (ls' := [(4, .int x4)]) [2] rfl ?_
        exact kx x4
      · refine aw_iload 3 dX9_lastRing_42 rfl ?_
        refine aw_istore (ls' := [(0, .ref (ad 9 t0 0)), (3, .int x3), (4, .int x5), (5, .int x5)]) [1, 2, 0, 3] dX9_lastRing_44 (by decide) rfl ?_
        refine aw_iinc (ls' := [(0, .ref (ad 9 t0 0)), (3, .int x3), (4, .int x5), (5, .int (x5 + 1))]) (x5 + 1) 3 [1, 2, 3, 0] dX9_lastRing_46 rfl (by rfl) (by decide) rfl ?_
        refine aw_goto 14 dX9_lastRing_49 (by decide) ?_
        exact ih x5 (x5 + 1)
def F9_lastRing (σ : Mem) (t0 : Nat) (x1 : Int32) (x2 : Int32) : Option Int32 :=
  bnd ((x1 * x1) + (x2 * x2)) fun v_1 => (F9_lastRing_L14 σ t0 v_1 fuelK (-1) 0).bind fun r_4 => some r_4
set_option maxRecDepth 20000 in
theorem c9_lastRing {l : Launch} {D : va_G} {ad : Nat → Nat → Nat → Nat} {cid : Nat → Nat → Nat → ClassId} (σ : Mem) (t0 : Nat) (ht0 : t0 < 5) (x1 : Int32) (x2 : Int32) : AMF (XC l D ad cid) M9_lastRing 0 eI [.ref (ad 9 t0 0), .int x1, .int x2] σ (oM σ (F9_lastRing σ t0 x1 x2)) := by
  refine AM.ofW (by decide +kernel) (Nat.le_of_ble_eq_true rfl) (ls := [(0, .ref (ad 9 t0 0)), (1, .int x1), (2, .int x2)]) rfl ?_
  refine aw_entryO ?_
  unfold F9_lastRing
  refine aw_iload_n 1 dX9_lastRing_0 rfl rfl ?_
  refine aw_iload_n 1 dX9_lastRing_1 rfl rfl ?_
  refine aw_imul dX9_lastRing_2 ?_
  refine aw_iload_n 2 dX9_lastRing_3 rfl rfl ?_
  refine aw_iload_n 2 dX9_lastRing_4 rfl rfl ?_
  refine aw_imul dX9_lastRing_5 ?_
  refine aw_iadd dX9_lastRing_6 ?_
  refine aw_bnd_int (fun v_1 => ?_)
  refine aw_istore_n (ls' := [(0, .ref (ad 9 t0 0)), (3, .int v_1)]) [1, 0] dX9_lastRing_7 rfl (by decide) rfl ?_
  refine aw_iconst (-1) dX9_lastRing_8 (by decide) ?_
  refine aw_istore (ls' := [(0, .ref (ad 9 t0 0)), (3, .int v_1), (4, .int (-1))]) [1, 2, 0] dX9_lastRing_9 (by decide) rfl ?_
  refine aw_iconst 0 dX9_lastRing_11 (by decide) ?_
  refine aw_istore (ls' := [(0, .ref (ad 9 t0 0)), (3, .int v_1), (4, .int (-1)), (5, .int 0)]) [1, 2, 3, 0] dX9_lastRing_12 (by decide) rfl ?_
  refine aw_assoc ?_
  refine c9_lastRing_L14 σ t0 (by omega) v_1 (fun r_4 => ?_) fuelK (-1) 0
  refine aw_iload 0 dX9_lastRing_52 rfl ?_
  exact aw_ireturn rfl dX9_lastRing_54
def F9_worthAt (σ : Mem) (t0 : Nat) (x1 : Int32) (x2 : Int32) : Option Int32 :=
  (F9_lastRing σ t0 x1 x2).bind fun v_1 => if v_1 = (-1) then (some 0) else ((ald 6 (gI σ 9 t0 2) v_1).bind fun v_2 => some v_2)
set_option maxRecDepth 20000 in
theorem c9_worthAt {l : Launch} {D : va_G} {ad : Nat → Nat → Nat → Nat} {cid : Nat → Nat → Nat → ClassId} (σ : Mem) (t0 : Nat) (ht0 : t0 < 5) (x1 : Int32) (x2 : Int32) : AMF (XC l D ad cid) M9_worthAt 1 eI [.ref (ad 9 t0 0), .int x1, .int x2] σ (oM σ (F9_worthAt σ t0 x1 x2)) := by
  refine AM.ofW (by decide +kernel) (Nat.le_of_ble_eq_true rfl) (ls := [(0, .ref (ad 9 t0 0)), (1, .int x1), (2, .int x2)]) rfl ?_
  refine aw_entryO ?_
  unfold F9_worthAt
  refine aw_aload_n 0 dX9_worthAt_0 rfl rfl ?_
  refine aw_iload_n 1 dX9_worthAt_1 rfl rfl ?_
  refine aw_iload_n 2 dX9_worthAt_2 rfl rfl ?_
  refine aw_callVO_I (c9_lastRing σ t0 (by omega) x1 x2) (io_9 (by omega)) ci_9 (by decide) mk_9_lastRing w_1132 w_1133 w_1131 rfl rfl (Nat.le_of_ble_eq_true rfl) dX9_worthAt_3 (fun v_1 => ?_)
  refine aw_istore_n (ls' := [(0, .ref (ad 9 t0 0)), (3, .int v_1)]) [1, 0] dX9_worthAt_6 rfl (by decide) rfl ?_
  refine aw_iload_n 1 dX9_worthAt_7 rfl rfl ?_
  refine aw_iconst (-1) dX9_worthAt_8 (by decide) ?_
  refine aw_icmp_ne 16 dX9_worthAt_9 (by decide) ?_ ?_
  · refine aw_aload_n 0 dX9_worthAt_16 rfl rfl ?_
    refine aw_getf (fg_9_6 (by omega)) ci_9 (by decide) w_334 dX9_worthAt_17 ?_
    refine aw_iload_n 1 dX9_worthAt_20 rfl rfl ?_
    refine aw_iaload (ar_9_2 (by omega)) dX9_worthAt_21 (fun v_2 => ?_)
    exact aw_ireturn rfl dX9_worthAt_22
  · refine aw_iconst 0 dX9_worthAt_12 (by decide) ?_
    refine aw_goto 22 dX9_worthAt_13 (by decide) ?_
    exact aw_ireturn rfl dX9_worthAt_22
def F11_points (σ : Mem) (x1 : Int32) (x2 : Int32) : Option (Int32 × Mem) :=
  if (F11_within x1 (-999) 999) = true then (if (F11_within x2 (-999) 999) = true then (gd 5 (gR σ 11 0 0 5) fun t_3 => (F9_worthAt σ t_3 x1 x2).bind fun v_4 => bd (F11_answer σ v_4) fun v_5 s_6 => some (v_5, s_6)) else (bd (F11_refuse σ 5) fun v_7 s_8 => some (v_7, s_8))) else (bd (F11_refuse σ 5) fun v_1 s_2 => some (v_1, s_2))
set_option maxRecDepth 20000 in
theorem c11_points {l : Launch} {D : va_G} {ad : Nat → Nat → Nat → Nat} {cid : Nat → Nat → Nat → ClassId} (σ : Mem) (x1 : Int32) (x2 : Int32) : AMF (XC l D ad cid) M11_points 2 eI [.ref (ad 11 0 0), .int x1, .int x2] σ (F11_points σ x1 x2) := by
  refine AM.ofW (by decide +kernel) (Nat.le_of_ble_eq_true rfl) (ls := [(0, .ref (ad 11 0 0)), (1, .int x1), (2, .int x2)]) rfl ?_
  refine aw_entry ?_
  unfold F11_points
  refine aw_iload_n 1 dX11_points_0 rfl rfl ?_
  refine aw_sipush (-999) dX11_points_1 (by decide) ?_
  refine aw_sipush 999 dX11_points_4 (by decide) ?_
  refine aw_callST_B (c11_within σ x1 (-999) 999) (by decide) mk_11_within w_798 w_797 rfl rfl (Nat.le_of_ble_eq_true rfl) dX11_points_7 ?_
  refine aw_bif_eq 26 dX11_points_10 (by decide) ?_ ?_
  · refine aw_aload_n 0 dX11_points_26 rfl rfl ?_
    refine aw_iconst 5 dX11_points_27 (by decide) ?_
    refine aw_callVW_I (c11_refuse σ 5) (io_11 (by decide)) ci_11 (by decide) mk_11_refuse w_838 w_3 w_836 rfl rfl (Nat.le_of_ble_eq_true rfl) dX11_points_28 (fun v_1 s_2 => ?_)
    exact aw_ireturn rfl dX11_points_31
  · refine aw_iload_n 2 dX11_points_13 rfl rfl ?_
    refine aw_sipush (-999) dX11_points_14 (by decide) ?_
    refine aw_sipush 999 dX11_points_17 (by decide) ?_
    refine aw_callST_B (c11_within σ x2 (-999) 999) (by decide) mk_11_within w_798 w_797 rfl rfl (Nat.le_of_ble_eq_true rfl) dX11_points_20 ?_
    refine aw_bif_ne 32 dX11_points_23 (by decide) ?_ ?_
    · refine aw_aload_n 0 dX11_points_32 rfl rfl ?_
      refine aw_aload_n 0 dX11_points_33 rfl rfl ?_
      refine aw_getf (fg_11_5 (by decide)) ci_11 (by decide) w_722 dX11_points_34 ?_
      refine aw_gd (n := 5) (fun t_3 ht_3 => ?_)
      refine aw_iload_n 1 dX11_points_37 rfl rfl ?_
      refine aw_iload_n 2 dX11_points_38 rfl rfl ?_
      refine aw_callVO_I (c9_worthAt σ t_3 (by omega) x1 x2) (io_9 (by omega)) ci_9 (by decide) mk_9_worthAt w_1128 w_1129 w_1127 rfl rfl (Nat.le_of_ble_eq_true rfl) dX11_points_39 (fun v_4 => ?_)
      refine aw_callVW_I (c11_answer σ v_4) (io_11 (by decide)) ci_11 (by decide) mk_11_answer w_975 w_15 w_973 rfl rfl (Nat.le_of_ble_eq_true rfl) dX11_points_42 (fun v_5 s_6 => ?_)
      exact aw_ireturn rfl dX11_points_45
    · refine aw_aload_n 0 dX11_points_26 rfl rfl ?_
      refine aw_iconst 5 dX11_points_27 (by decide) ?_
      refine aw_callVW_I (c11_refuse σ 5) (io_11 (by decide)) ci_11 (by decide) mk_11_refuse w_838 w_3 w_836 rfl rfl (Nat.le_of_ble_eq_true rfl) dX11_points_28 (fun v_7 s_8 => ?_)
      exact aw_ireturn rfl dX11_points_31
def F11_ringAt (σ : Mem) (x1 : Int32) (x2 : Int32) : Option (Int32 × Mem) :=
  if (F11_within x1 (-999) 999) = true then (if (F11_within x2 (-999) 999) = true then (gd 5 (gR σ 11 0 0 5) fun t_3 => (F9_lastRing σ t_3 x1 x2).bind fun v_4 => if v_4 = (-1) then (bd (F11_refuse σ 8) fun v_7 s_8 => some (v_7, s_8)) else (bd (F11_answer σ v_4) fun v_5 s_6 => some (v_5, s_6))) else (bd (F11_refuse σ 5) fun v_9 s_10 => some (v_9, s_10))) else (bd (F11_refuse σ 5) fun v_1 s_2 => some (v_1, s_2))
set_option maxRecDepth 20000 in
theorem c11_ringAt {l : Launch} {D : va_G} {ad : Nat → Nat → Nat → Nat} {cid : Nat → Nat → Nat → ClassId} (σ : Mem) (x1 : Int32) (x2 : Int32) : AMF (XC l D ad cid) M11_ringAt 1 eI [.ref (ad 11 0 0), .int x1, .int x2] σ (F11_ringAt σ x1 x2) := by
  refine AM.ofW (by decide +kernel) (Nat.le_of_ble_eq_true rfl) (ls := [(0, .ref (ad 11 0 0)), (1, .int x1), (2, .int x2)]) rfl ?_
  refine aw_entry ?_
  unfold F11_ringAt
  refine aw_iload_n 1 dX11_ringAt_0 rfl rfl ?_
  refine aw_sipush (-999) dX11_ringAt_1 (by decide) ?_
  refine aw_sipush 999 dX11_ringAt_4 (by decide) ?_
  refine aw_callST_B (c11_within σ x1 (-999) 999) (by decide) mk_11_within w_798 w_797 rfl rfl (Nat.le_of_ble_eq_true rfl) dX11_ringAt_7 ?_
  refine aw_bif_eq 26 dX11_ringAt_10 (by decide) ?_ ?_
  · refine aw_aload_n 0 dX11_ringAt_26 rfl rfl ?_
    refine aw_iconst 5 dX11_ringAt_27 (by decide) ?_
    refine aw_callVW_I (c11_refuse σ 5) (io_11 (by decide)) ci_11 (by decide) mk_11_refuse w_838 w_3 w_836 rfl rfl (Nat.le_of_ble_eq_true rfl) dX11_ringAt_28 (fun v_1 s_2 => ?_)
    exact aw_ireturn rfl dX11_ringAt_31
  · refine aw_iload_n 2 dX11_ringAt_13 rfl rfl ?_
    refine aw_sipush (-999) dX11_ringAt_14 (by decide) ?_
    refine aw_sipush 999 dX11_ringAt_17 (by decide) ?_
    refine aw_callST_B (c11_within σ x2 (-999) 999) (by decide) mk_11_within w_798 w_797 rfl rfl (Nat.le_of_ble_eq_true rfl) dX11_ringAt_20 ?_
    refine aw_bif_ne 32 dX11_ringAt_23 (by decide) ?_ ?_
    · refine aw_aload_n 0 dX11_ringAt_32 rfl rfl ?_
      refine aw_getf (fg_11_5 (by decide)) ci_11 (by decide) w_722 dX11_ringAt_33 ?_
      refine aw_gd (n := 5) (fun t_3 ht_3 => ?_)
      refine aw_iload_n 1 dX11_ringAt_36 rfl rfl ?_
      refine aw_iload_n 2 dX11_ringAt_37 rfl rfl ?_
      refine aw_callVO_I (c9_lastRing σ t_3 (by omega) x1 x2) (io_9 (by omega)) ci_9 (by decide) mk_9_lastRing w_1132 w_1133 w_1139 rfl rfl (Nat.le_of_ble_eq_true rfl) dX11_ringAt_38 (fun v_4 => ?_)
      refine aw_istore_n (ls' := [(0, .ref (ad 11 0 0)), (3, .int v_4)]) [1, 0] dX11_ringAt_41 rfl (by decide) rfl ?_
      refine aw_iload_n 1 dX11_ringAt_42 rfl rfl ?_
      refine aw_iconst (-1) dX11_ringAt_43 (by decide) ?_
      refine aw_icmp_ne 56 dX11_ringAt_44 (by decide) ?_ ?_
      · refine aw_aload_n 0 dX11_ringAt_56 rfl rfl ?_
        refine aw_iload_n 1 dX11_ringAt_57 rfl rfl ?_
        refine aw_callVW_I (c11_answer σ v_4) (io_11 (by decide)) ci_11 (by decide) mk_11_answer w_975 w_15 w_973 rfl rfl (Nat.le_of_ble_eq_true rfl) dX11_ringAt_58 (fun v_5 s_6 => ?_)
        exact aw_ireturn rfl dX11_ringAt_61
      · refine aw_aload_n 0 dX11_ringAt_47 rfl rfl ?_
        refine aw_bipush 8 dX11_ringAt_48 (by decide) ?_
        refine aw_callVW_I (c11_refuse σ 8) (io_11 (by decide)) ci_11 (by decide) mk_11_refuse w_838 w_3 w_836 rfl rfl (Nat.le_of_ble_eq_true rfl) dX11_ringAt_50 (fun v_7 s_8 => ?_)
        refine aw_goto 61 dX11_ringAt_53 (by decide) ?_
        exact aw_ireturn rfl dX11_ringAt_61
    · refine aw_aload_n 0 dX11_ringAt_26 rfl rfl ?_
      refine aw_iconst 5 dX11_ringAt_27 (by decide) ?_
      refine aw_callVW_I (c11_refuse σ 5) (io_11 (by decide)) ci_11 (by decide) mk_11_refuse w_838 w_3 w_836 rfl rfl (Nat.le_of_ble_eq_true rfl) dX11_ringAt_28 (fun v_9 s_10 => ?_)
      exact aw_ireturn rfl dX11_ringAt_31
def F9_shakeOn (σ : Mem) (t0 : Nat) (x1 : Int32) (x2 : Int32) : Option Int32 :=
  (ald 6 (gI σ 9 t0 10) x1).bind fun v_1 => if x2 = 0 then (some v_1) else if x2 = 1 then (some ((v_1 + 1) / 2)) else if x2 = 2 then (some (iMin v_1 1)) else (some 0)
set_option maxRecDepth 20000 in
theorem c9_shakeOn {l : Launch} {D : va_G} {ad : Nat → Nat → Nat → Nat} {cid : Nat → Nat → Nat → ClassId} (σ : Mem) (t0 : Nat) (ht0 : t0 < 5) (x1 : Int32) (x2 : Int32) : AMF (XC l D ad cid) M9_shakeOn 0 eI [.ref (ad 9 t0 0), .int x1, .int x2] σ (oM σ (F9_shakeOn σ t0 x1 x2)) := by
  refine AM.ofW (by decide +kernel) (Nat.le_of_ble_eq_true rfl) (ls := [(0, .ref (ad 9 t0 0)), (1, .int x1), (2, .int x2)]) rfl ?_
  refine aw_entryO ?_
  unfold F9_shakeOn
  refine aw_aload_n 0 dX9_shakeOn_0 rfl rfl ?_
  refine aw_getf (fg_9_16 (by omega)) ci_9 (by decide) w_358 dX9_shakeOn_1 ?_
  refine aw_iload_n 1 dX9_shakeOn_4 rfl rfl ?_
  refine aw_iaload (ar_9_10 (by omega)) dX9_shakeOn_5 (fun v_1 => ?_)
  refine aw_istore_n (ls' := [(2, .int x2), (3, .int v_1)]) [3, 0] dX9_shakeOn_6 rfl (by decide) rfl ?_
  refine aw_iload_n 0 dX9_shakeOn_7 rfl rfl ?_
  refine aw_case (c := 0) (fun h_2 => ?_) (fun h_2 => ?_)
  · refine aw_tabIn 36 h_2 dX9_shakeOn_8 (by decide) (by decide) rfl (by decide) ?_
    refine aw_iload_n 1 dX9_shakeOn_36 rfl rfl ?_
    exact aw_ireturn rfl dX9_shakeOn_37
  refine aw_case (c := 1) (fun h_3 => ?_) (fun h_3 => ?_)
  · refine aw_tabIn 38 h_3 dX9_shakeOn_8 (by decide) (by decide) rfl (by decide) ?_
    refine aw_iload_n 1 dX9_shakeOn_38 rfl rfl ?_
    refine aw_iconst 1 dX9_shakeOn_39 (by decide) ?_
    refine aw_iadd dX9_shakeOn_40 ?_
    refine aw_iconst 2 dX9_shakeOn_41 (by decide) ?_
    refine aw_idiv_c dX9_shakeOn_42 (by decide) ?_
    exact aw_ireturn rfl dX9_shakeOn_43
  refine aw_case (c := 2) (fun h_4 => ?_) (fun h_4 => ?_)
  · refine aw_tabIn 44 h_4 dX9_shakeOn_8 (by decide) (by decide) rfl (by decide) ?_
    refine aw_iload_n 1 dX9_shakeOn_44 rfl rfl ?_
    refine aw_iconst 1 dX9_shakeOn_45 (by decide) ?_
    refine aw_min w_1148 w_864 w_159 w_865 (Nat.le_of_ble_eq_true rfl) dX9_shakeOn_46 ?_
    exact aw_ireturn rfl dX9_shakeOn_49
  refine aw_tabOut 50 dX9_shakeOn_8 (by have eh_2 : x2.toInt ≠ 0 := ne_toInt h_2; have eh_3 : x2.toInt ≠ 1 := ne_toInt h_3; have eh_4 : x2.toInt ≠ 2 := ne_toInt h_4; omega) (by decide) ?_
  refine aw_iconst 0 dX9_shakeOn_50 (by decide) ?_
  exact aw_ireturn rfl dX9_shakeOn_51
def F11_hand (σ : Mem) (x1 : Int32) (x2 : Int32) : Option (Int32 × Mem) :=
  (F11_isShooter σ x1).bind fun v_1 => if v_1 = true then (if (F11_within x2 0 3) = true then (gd 5 (gR σ 11 0 0 5) fun t_2 => (F9_shakeOn σ t_2 x1 x2).bind fun v_3 => bd (F11_answer σ v_3) fun v_4 s_5 => some (v_4, s_5)) else (bd (F11_refuse σ 5) fun v_6 s_7 => some (v_6, s_7))) else (bd (F11_refuse σ 2) fun v_8 s_9 => some (v_8, s_9))
set_option maxRecDepth 20000 in
theorem c11_hand {l : Launch} {D : va_G} {ad : Nat → Nat → Nat → Nat} {cid : Nat → Nat → Nat → ClassId} (σ : Mem) (x1 : Int32) (x2 : Int32) : AMF (XC l D ad cid) M11_hand 2 eI [.ref (ad 11 0 0), .int x1, .int x2] σ (F11_hand σ x1 x2) := by
  refine AM.ofW (by decide +kernel) (Nat.le_of_ble_eq_true rfl) (ls := [(0, .ref (ad 11 0 0)), (1, .int x1), (2, .int x2)]) rfl ?_
  refine aw_entry ?_
  unfold F11_hand
  refine aw_aload_n 0 dX11_hand_0 rfl rfl ?_
  refine aw_iload_n 1 dX11_hand_1 rfl rfl ?_
  refine aw_callVO_B (c11_isShooter σ x1) (io_11 (by decide)) ci_11 (by decide) mk_11_isShooter w_1064 w_23 w_1062 rfl rfl (Nat.le_of_ble_eq_true rfl) dX11_hand_2 (fun v_1 => ?_)
  refine aw_bif_ne 14 dX11_hand_5 (by decide) ?_ ?_
  · refine aw_iload_n 2 dX11_hand_14 rfl rfl ?_
    refine aw_iconst 0 dX11_hand_15 (by decide) ?_
    refine aw_iconst 3 dX11_hand_16 (by decide) ?_
    refine aw_callST_B (c11_within σ x2 0 3) (by decide) mk_11_within w_798 w_797 rfl rfl (Nat.le_of_ble_eq_true rfl) dX11_hand_17 ?_
    refine aw_bif_ne 29 dX11_hand_20 (by decide) ?_ ?_
    · refine aw_aload_n 0 dX11_hand_29 rfl rfl ?_
      refine aw_aload_n 0 dX11_hand_30 rfl rfl ?_
      refine aw_getf (fg_11_5 (by decide)) ci_11 (by decide) w_722 dX11_hand_31 ?_
      refine aw_gd (n := 5) (fun t_2 ht_2 => ?_)
      refine aw_iload_n 1 dX11_hand_34 rfl rfl ?_
      refine aw_iload_n 2 dX11_hand_35 rfl rfl ?_
      refine aw_callVO_I (c9_shakeOn σ t_2 (by omega) x1 x2) (io_9 (by omega)) ci_9 (by decide) mk_9_shakeOn w_1145 w_1146 w_1144 rfl rfl (Nat.le_of_ble_eq_true rfl) dX11_hand_36 (fun v_3 => ?_)
      refine aw_callVW_I (c11_answer σ v_3) (io_11 (by decide)) ci_11 (by decide) mk_11_answer w_975 w_15 w_973 rfl rfl (Nat.le_of_ble_eq_true rfl) dX11_hand_39 (fun v_4 s_5 => ?_)
      exact aw_ireturn rfl dX11_hand_42
    · refine aw_aload_n 0 dX11_hand_23 rfl rfl ?_
      refine aw_iconst 5 dX11_hand_24 (by decide) ?_
      refine aw_callVW_I (c11_refuse σ 5) (io_11 (by decide)) ci_11 (by decide) mk_11_refuse w_838 w_3 w_836 rfl rfl (Nat.le_of_ble_eq_true rfl) dX11_hand_25 (fun v_6 s_7 => ?_)
      exact aw_ireturn rfl dX11_hand_28
  · refine aw_aload_n 0 dX11_hand_8 rfl rfl ?_
    refine aw_iconst 2 dX11_hand_9 (by decide) ?_
    refine aw_callVW_I (c11_refuse σ 2) (io_11 (by decide)) ci_11 (by decide) mk_11_refuse w_838 w_3 w_836 rfl rfl (Nat.le_of_ble_eq_true rfl) dX11_hand_10 (fun v_8 s_9 => ?_)
    exact aw_ireturn rfl dX11_hand_13
def F2_count_L21 (t0 : Nat) (t1 : Nat) (x2 : Int32) (x3 : Int32) (x4 : Int32) (x5 : Int32) (x6 : Int32) : Nat → Mem → Int32 → Option ((Unit) × Mem)
  | 0 => fun _ _ => none
  | n + 1 => fun σ x7 =>
    if (x3 + x4) < x7 then (some ((), σ)) else ((F9_worthAt σ t1 x6 x7).bind fun v_3 => (ald 21 (gI σ 2 t0 1) v_3).bind fun v_4 => chk 21 v_3 <| bnd (sI σ 2 t0 1 (Int32.toNatClampNeg v_3) (v_4 + x5)) fun s_5 => (F2_count_L21 t0 t1 x2 x3 x4 x5 x6 n) s_5 (x7 + 1))
set_option maxRecDepth 20000 in
theorem c2_count_L21 {l : Launch} {D : va_G} {ad : Nat → Nat → Nat → Nat} {cid : Nat → Nat → Nat → ClassId} {α : Type} {emb : α → Option Value} (t0 : Nat) (ht0 : t0 < 5) (t1 : Nat) (ht1 : t1 < 5) (x2 : Int32) (x3 : Int32) (x4 : Int32) (x5 : Int32) (x6 : Int32) {G : Unit → Mem → Option (α × Mem)} (kx : ∀ r σ, AW (XC l D ad cid) M2_count 2 emb [(0, .ref (ad 2 t0 0)), (1, .ref (ad 9 t1 0)), (2, .int x2), (3, .int x3), (4, .int x4), (5, .int x5), (6, .int x6)] 54 [] σ (G r σ)) : ∀ (n : Nat) (σ : Mem) (x7 : Int32), AW (XC l D ad cid) M2_count 2 emb [(0, .ref (ad 2 t0 0)), (1, .ref (ad 9 t1 0)), (2, .int x2), (3, .int x3), (4, .int x4), (5, .int x5), (6, .int x6), (7, .int x7)] 21 [] σ (bd (F2_count_L21 t0 t1 x2 x3 x4 x5 x6 n σ x7) G) := by
  intro n
  induction n with
  | zero => intros; exact aw_none
  | succ n ih =>
    intro σ x7
    refine aw_bdB ?_
    rw [F2_count_L21.eq_2]
    refine aw_iload 7 dX2_count_21 rfl ?_
    refine aw_iload_n 3 dX2_count_23 rfl rfl ?_
    refine aw_iload 4 dX2_count_24 rfl ?_
    refine aw_iadd dX2_count_26 ?_
    refine aw_icmp_gt 54 dX2_count_27 (by decide) ?_ ?_
    · refine aw_ls (ls' := [(0, .ref (ad 2 t0 0)), (1, .ref (ad 9 t1 0)), (2, .int x2), (3, .int x3), (4, .int x4), (5, .int x5), (6, .int x6)]) [0, 1, 2, 3, 4, 5, 6] rfl ?_
      exact kx () σ
    · refine aw_aload_n 0 dX2_count_30 rfl rfl ?_
      refine aw_getf (fg_2_0 (by omega)) ci_2 (by decide) w_617 dX2_count_31 ?_
      refine aw_aload_n 1 dX2_count_34 rfl rfl ?_
      refine aw_iload 6 dX2_count_35 rfl ?_
      refine aw_iload 7 dX2_count_37 rfl ?_
      refine aw_callVO_I (c9_worthAt σ t1 (by omega) x6 x7) (io_9 (by omega)) ci_9 (by decide) mk_9_worthAt w_1128 w_1129 w_1166 rfl rfl (Nat.le_of_ble_eq_true rfl) dX2_count_39 (fun v_3 => ?_)
      refine aw_dup2_11 dX2_count_42 rfl rfl ?_
      refine aw_iaload (ar_2_1 (by omega)) dX2_count_43 (fun v_4 => ?_)
      refine aw_iload 5 dX2_count_44 rfl ?_
      refine aw_iadd dX2_count_46 ?_
      refine aw_iastore (ar_2_1 (by omega)) dX2_count_47 ?_
      refine aw_bndM (fun s_5 => ?_)
      refine aw_iinc (ls' := [(0, .ref (ad 2 t0 0)), (1, .ref (ad 9 t1 0)), (2, .int x2), (3, .int x3), (4, .int x4), (5, .int x5), (6, .int x6), (7, .int (x7 + 1))]) (x7 + 1) 7 [1, 2, 3, 4, 5, 6, 7, 0] dX2_count_48 rfl (by rfl) (by decide) rfl ?_
      refine aw_goto 21 dX2_count_51 (by decide) ?_
      exact ih s_5 (x7 + 1)
def F2_count_L6 (t0 : Nat) (t1 : Nat) (x2 : Int32) (x3 : Int32) (x4 : Int32) (x5 : Int32) : Nat → Mem → Int32 → Option ((Unit) × Mem)
  | 0 => fun _ _ => none
  | n + 1 => fun σ x6 =>
    if (x2 + x4) < x6 then (some ((), σ)) else (bnd (x3 - x4) fun v_2 => bd (F2_count_L21 t0 t1 x2 x3 x4 x5 x6 fuelK σ v_2) fun r_6 s_7 => (F2_count_L6 t0 t1 x2 x3 x4 x5 n) s_7 (x6 + 1))
set_option maxRecDepth 20000 in
theorem c2_count_L6 {l : Launch} {D : va_G} {ad : Nat → Nat → Nat → Nat} {cid : Nat → Nat → Nat → ClassId} {α : Type} {emb : α → Option Value} (t0 : Nat) (ht0 : t0 < 5) (t1 : Nat) (ht1 : t1 < 5) (x2 : Int32) (x3 : Int32) (x4 : Int32) (x5 : Int32) {G : Unit → Mem → Option (α × Mem)} (kx : ∀ r σ, AW (XC l D ad cid) M2_count 2 emb [] 60 [] σ (G r σ)) : ∀ (n : Nat) (σ : Mem) (x6 : Int32), AW (XC l D ad cid) M2_count 2 emb [(0, .ref (ad 2 t0 0)), (1, .ref (ad 9 t1 0)), (2, .int x2), (3, .int x3), (4, .int x4), (5, .int x5), (6, .int x6)] 6 [] σ (bd (F2_count_L6 t0 t1 x2 x3 x4 x5 n σ x6) G) := by
  intro n
  induction n with
  | zero => intros; exact aw_none
  | succ n ih =>
    intro σ x6
    refine aw_bdB ?_
    rw [F2_count_L6.eq_2]
    refine aw_iload 6 dX2_count_6 rfl ?_
    refine aw_iload_n 2 dX2_count_8 rfl rfl ?_
    refine aw_iload 4 dX2_count_9 rfl ?_
    refine aw_iadd dX2_count_11 ?_
    refine aw_icmp_gt 60 dX2_count_12 (by decide) ?_ ?_
    · refine aw_ls (ls' := []) [] rfl ?_
      exact kx () σ
    · refine aw_iload_n 3 dX2_count_15 rfl rfl ?_
      refine aw_iload 4 dX2_count_16 rfl ?_
      refine aw_isub dX2_count_18 ?_
      refine aw_bnd_int (fun v_2 => ?_)
      refine aw_istore (ls' := [(0, .ref (ad 2 t0 0)), (1, .ref (ad 9 t1 0)), (2, .int x2), (3, .int x3), (4, .int x4), (5, .int x5), (6, .int x6), (7, .int v_2)]) [1, 2, 3, 4, 5, 6, 7, 0] dX2_count_19 (by decide) rfl ?_
      refine aw_assocW ?_
      refine c2_count_L21 t0 (by omega) t1 (by omega) x2 x3 x4 x5 x6 (fun r_6 s_7 => ?_) fuelK σ v_2
      refine aw_iinc (ls' := [(0, .ref (ad 2 t0 0)), (1, .ref (ad 9 t1 0)), (2, .int x2), (3, .int x3), (4, .int x4), (5, .int x5), (6, .int (x6 + 1))]) (x6 + 1) 6 [1, 2, 3, 4, 5, 6, 0] dX2_count_54 rfl (by rfl) (by decide) rfl ?_
      refine aw_goto 6 dX2_count_57 (by decide) ?_
      exact ih s_7 (x6 + 1)
def F2_count (σ : Mem) (t0 : Nat) (t1 : Nat) (x2 : Int32) (x3 : Int32) (x4 : Int32) (x5 : Int32) : Option (Unit × Mem) :=
  bnd (x2 - x4) fun v_1 => bd (F2_count_L6 t0 t1 x2 x3 x4 x5 fuelK σ v_1) fun r_8 s_9 => some ((), s_9)
set_option maxRecDepth 20000 in
theorem c2_count {l : Launch} {D : va_G} {ad : Nat → Nat → Nat → Nat} {cid : Nat → Nat → Nat → ClassId} (σ : Mem) (t0 : Nat) (ht0 : t0 < 5) (t1 : Nat) (ht1 : t1 < 5) (x2 : Int32) (x3 : Int32) (x4 : Int32) (x5 : Int32) : AMF (XC l D ad cid) M2_count 2 eU [.ref (ad 2 t0 0), .ref (ad 9 t1 0), .int x2, .int x3, .int x4, .int x5] σ (F2_count σ t0 t1 x2 x3 x4 x5) := by
  refine AM.ofW (by decide +kernel) (Nat.le_of_ble_eq_true rfl) (ls := [(0, .ref (ad 2 t0 0)), (1, .ref (ad 9 t1 0)), (2, .int x2), (3, .int x3), (4, .int x4), (5, .int x5)]) rfl ?_
  refine aw_entry ?_
  unfold F2_count
  refine aw_iload_n 2 dX2_count_0 rfl rfl ?_
  refine aw_iload 4 dX2_count_1 rfl ?_
  refine aw_isub dX2_count_3 ?_
  refine aw_bnd_int (fun v_1 => ?_)
  refine aw_istore (ls' := [(0, .ref (ad 2 t0 0)), (1, .ref (ad 9 t1 0)), (2, .int x2), (3, .int x3), (4, .int x4), (5, .int x5), (6, .int v_1)]) [1, 2, 3, 4, 5, 6, 0] dX2_count_4 (by decide) rfl ?_
  refine aw_assocW ?_
  refine c2_count_L6 t0 (by omega) t1 (by omega) x2 x3 x4 x5 (fun r_8 s_9 => ?_) fuelK σ v_1
  exact aw_return rfl dX2_count_60
def F2_reckon (σ : Mem) (t0 : Nat) (t1 : Nat) (t2 : Nat) : Option (Unit × Mem) :=
  bd (F20_fillI σ 2 t0 1 21 0) fun _ s_1 => bd (F6_reckon s_1 t2 t1) fun _ s_2 => (F9_shakeOn s_2 t1 (gI s_2 6 t2 0 0) (gI s_2 6 t2 0 3)).bind fun v_3 => bnd (sI s_2 2 t0 0 1 ((2 * ((2 * v_3) + 1)) * ((2 * v_3) + 1))) fun s_4 => if (gI s_4 6 t2 0 8) = 0 then ((F6_strikeY s_4 t2 t1).bind fun v_5 => if (gI s_4 6 t2 0 13) = 0 then ((F6_strikeX s_4 t2 t1 0).bind fun v_10 => bd (F2_count s_4 t0 t1 v_10 v_5 v_3 2) fun _ s_11 => some ((), s_11)) else ((F6_strikeX s_4 t2 t1 1).bind fun v_6 => bd (F2_count s_4 t0 t1 v_6 v_5 v_3 1) fun _ s_7 => (F6_strikeX s_7 t2 t1 (-1)).bind fun v_8 => bd (F2_count s_7 t0 t1 v_8 v_5 v_3 1) fun _ s_9 => some ((), s_9))) else (chk 21 0 <| bnd (sI s_4 2 t0 1 (Int32.toNatClampNeg 0) (gI s_4 2 t0 0 1)) fun s_12 => some ((), s_12))
set_option maxRecDepth 20000 in
theorem c2_reckon {l : Launch} {D : va_G} {ad : Nat → Nat → Nat → Nat} {cid : Nat → Nat → Nat → ClassId} (σ : Mem) (t0 : Nat) (ht0 : t0 < 5) (t1 : Nat) (ht1 : t1 < 5) (t2 : Nat) (ht2 : t2 < 3) : AMF (XC l D ad cid) M2_reckon 4 eU [.ref (ad 2 t0 0), .ref (ad 9 t1 0), .ref (ad 6 t2 0)] σ (F2_reckon σ t0 t1 t2) := by
  refine AM.ofW (by decide +kernel) (Nat.le_of_ble_eq_true rfl) (ls := [(0, .ref (ad 2 t0 0)), (1, .ref (ad 9 t1 0)), (2, .ref (ad 6 t2 0))]) rfl ?_
  refine aw_entry ?_
  unfold F2_reckon
  refine aw_aload_n 0 dX2_reckon_0 rfl rfl ?_
  refine aw_getf (fg_2_0 (by omega)) ci_2 (by decide) w_617 dX2_reckon_1 ?_
  refine aw_iconst 0 dX2_reckon_4 (by decide) ?_
  refine aw_callSW_U (c20_fillI σ 2 t0 1 21 (ar_2_1 (by omega)) 0) (by decide) mk_20_fillI w_967 w_1157 rfl rfl (Nat.le_of_ble_eq_true rfl) dX2_reckon_5 (fun _ s_1 => ?_)
  refine aw_aload_n 2 dX2_reckon_8 rfl rfl ?_
  refine aw_aload_n 1 dX2_reckon_9 rfl rfl ?_
  refine aw_callVW_U (c6_reckon s_1 t2 (by omega) t1 (by omega)) (io_6 (by omega)) ci_6 (by decide) mk_6_reckon w_1083 w_1084 w_1158 rfl rfl (Nat.le_of_ble_eq_true rfl) dX2_reckon_10 (fun _ s_2 => ?_)
  refine aw_aload_n 1 dX2_reckon_13 rfl rfl ?_
  refine aw_aload_n 2 dX2_reckon_14 rfl rfl ?_
  refine aw_getf (fg_6_0 (by omega)) ci_6 (by decide) w_536 dX2_reckon_15 ?_
  refine aw_aload_n 2 dX2_reckon_18 rfl rfl ?_
  refine aw_getf (fg_6_3 (by omega)) ci_6 (by decide) w_549 dX2_reckon_19 ?_
  refine aw_callVO_I (c9_shakeOn s_2 t1 (by omega) (gI s_2 6 t2 0 0) (gI s_2 6 t2 0 3)) (io_9 (by omega)) ci_9 (by decide) mk_9_shakeOn w_1145 w_1146 w_1159 rfl rfl (Nat.le_of_ble_eq_true rfl) dX2_reckon_22 (fun v_3 => ?_)
  refine aw_istore_n (ls' := [(0, .ref (ad 2 t0 0)), (1, .ref (ad 9 t1 0)), (2, .ref (ad 6 t2 0)), (3, .int v_3)]) [1, 2, 3, 0] dX2_reckon_25 rfl (by decide) rfl ?_
  refine aw_aload_n 0 dX2_reckon_26 rfl rfl ?_
  refine aw_iconst 2 dX2_reckon_27 (by decide) ?_
  refine aw_iconst 2 dX2_reckon_28 (by decide) ?_
  refine aw_iload_n 3 dX2_reckon_29 rfl rfl ?_
  refine aw_imul dX2_reckon_30 ?_
  refine aw_iconst 1 dX2_reckon_31 (by decide) ?_
  refine aw_iadd dX2_reckon_32 ?_
  refine aw_imul dX2_reckon_33 ?_
  refine aw_iconst 2 dX2_reckon_34 (by decide) ?_
  refine aw_iload_n 3 dX2_reckon_35 rfl rfl ?_
  refine aw_imul dX2_reckon_36 ?_
  refine aw_iconst 1 dX2_reckon_37 (by decide) ?_
  refine aw_iadd dX2_reckon_38 ?_
  refine aw_imul dX2_reckon_39 ?_
  refine aw_putI (fs_2_1 (by omega)) ci_2 (by decide) rfl rfl w_618 dX2_reckon_40 ?_
  refine aw_bndM (fun s_4 => ?_)
  refine aw_aload_n 2 dX2_reckon_43 rfl rfl ?_
  refine aw_getf (fg_6_8 (by omega)) ci_6 (by decide) w_565 dX2_reckon_44 ?_
  refine aw_if_eq 61 dX2_reckon_47 (by decide) ?_ ?_
  · refine aw_aload_n 2 dX2_reckon_61 rfl rfl ?_
    refine aw_aload_n 1 dX2_reckon_62 rfl rfl ?_
    refine aw_callVO_I (c6_strikeY s_4 t2 (by omega) t1 (by omega)) (io_6 (by omega)) ci_6 (by decide) mk_6_strikeY w_1120 w_1121 w_1160 rfl rfl (Nat.le_of_ble_eq_true rfl) dX2_reckon_63 (fun v_5 => ?_)
    refine aw_istore (ls' := [(0, .ref (ad 2 t0 0)), (1, .ref (ad 9 t1 0)), (2, .ref (ad 6 t2 0)), (3, .int v_3), (4, .int v_5)]) [1, 2, 3, 4, 0] dX2_reckon_66 (by decide) rfl ?_
    refine aw_aload_n 2 dX2_reckon_68 rfl rfl ?_
    refine aw_getf (fg_6_13 (by omega)) ci_6 (by decide) w_577 dX2_reckon_69 ?_
    refine aw_if_ne 93 dX2_reckon_72 (by decide) ?_ ?_
    · refine aw_aload_n 0 dX2_reckon_93 rfl rfl ?_
      refine aw_aload_n 1 dX2_reckon_94 rfl rfl ?_
      refine aw_aload_n 2 dX2_reckon_95 rfl rfl ?_
      refine aw_aload_n 1 dX2_reckon_96 rfl rfl ?_
      refine aw_iconst 1 dX2_reckon_97 (by decide) ?_
      refine aw_callVO_I (c6_strikeX s_4 t2 (by omega) t1 (by omega) 1) (io_6 (by omega)) ci_6 (by decide) mk_6_strikeX w_1116 w_1117 w_1161 rfl rfl (Nat.le_of_ble_eq_true rfl) dX2_reckon_98 (fun v_6 => ?_)
      refine aw_iload 4 dX2_reckon_101 rfl ?_
      refine aw_iload_n 3 dX2_reckon_103 rfl rfl ?_
      refine aw_iconst 1 dX2_reckon_104 (by decide) ?_
      refine aw_callVW_U (c2_count s_4 t0 (by omega) t1 (by omega) v_6 v_5 v_3 1) (io_2 (by omega)) ci_2 (by decide) mk_2_count w_1164 w_29 w_1162 rfl rfl (Nat.le_of_ble_eq_true rfl) dX2_reckon_105 (fun _ s_7 => ?_)
      refine aw_aload_n 0 dX2_reckon_108 rfl rfl ?_
      refine aw_aload_n 1 dX2_reckon_109 rfl rfl ?_
      refine aw_aload_n 2 dX2_reckon_110 rfl rfl ?_
      refine aw_aload_n 1 dX2_reckon_111 rfl rfl ?_
      refine aw_iconst (-1) dX2_reckon_112 (by decide) ?_
      refine aw_callVO_I (c6_strikeX s_7 t2 (by omega) t1 (by omega) (-1)) (io_6 (by omega)) ci_6 (by decide) mk_6_strikeX w_1116 w_1117 w_1161 rfl rfl (Nat.le_of_ble_eq_true rfl) dX2_reckon_113 (fun v_8 => ?_)
      refine aw_iload 4 dX2_reckon_116 rfl ?_
      refine aw_iload_n 3 dX2_reckon_118 rfl rfl ?_
      refine aw_iconst 1 dX2_reckon_119 (by decide) ?_
      refine aw_callVW_U (c2_count s_7 t0 (by omega) t1 (by omega) v_8 v_5 v_3 1) (io_2 (by omega)) ci_2 (by decide) mk_2_count w_1164 w_29 w_1162 rfl rfl (Nat.le_of_ble_eq_true rfl) dX2_reckon_120 (fun _ s_9 => ?_)
      exact aw_return rfl dX2_reckon_123
    · refine aw_aload_n 0 dX2_reckon_75 rfl rfl ?_
      refine aw_aload_n 1 dX2_reckon_76 rfl rfl ?_
      refine aw_aload_n 2 dX2_reckon_77 rfl rfl ?_
      refine aw_aload_n 1 dX2_reckon_78 rfl rfl ?_
      refine aw_iconst 0 dX2_reckon_79 (by decide) ?_
      refine aw_callVO_I (c6_strikeX s_4 t2 (by omega) t1 (by omega) 0) (io_6 (by omega)) ci_6 (by decide) mk_6_strikeX w_1116 w_1117 w_1161 rfl rfl (Nat.le_of_ble_eq_true rfl) dX2_reckon_80 (fun v_10 => ?_)
      refine aw_iload 4 dX2_reckon_83 rfl ?_
      refine aw_iload_n 3 dX2_reckon_85 rfl rfl ?_
      refine aw_iconst 2 dX2_reckon_86 (by decide) ?_
      refine aw_callVW_U (c2_count s_4 t0 (by omega) t1 (by omega) v_10 v_5 v_3 2) (io_2 (by omega)) ci_2 (by decide) mk_2_count w_1164 w_29 w_1162 rfl rfl (Nat.le_of_ble_eq_true rfl) dX2_reckon_87 (fun _ s_11 => ?_)
      refine aw_goto 123 dX2_reckon_90 (by decide) ?_
      exact aw_return rfl dX2_reckon_123
  · refine aw_aload_n 0 dX2_reckon_50 rfl rfl ?_
    refine aw_getf (fg_2_0 (by omega)) ci_2 (by decide) w_617 dX2_reckon_51 ?_
    refine aw_iconst 0 dX2_reckon_54 (by decide) ?_
    refine aw_aload_n 0 dX2_reckon_55 rfl rfl ?_
    refine aw_getf (fg_2_1 (by omega)) ci_2 (by decide) w_618 dX2_reckon_56 ?_
    refine aw_iastore (ar_2_1 (by omega)) dX2_reckon_59 ?_
    refine aw_bndM (fun s_12 => ?_)
    exact aw_return rfl dX2_reckon_60
