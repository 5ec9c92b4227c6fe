def F2_atLeast_L9 (σ : Mem) (t0 : Nat) : Nat → Int64 → Int32 → Option (Int64)
  | 0 => fun _ _ => none
  | n + 1 => fun y2 x4 =>
    if 20 < x4 then (some y2) else ((ald 21 (gI σ 2 t0 1) x4).bind fun v_2 => bnd (y2 + (Int32.toInt64 v_2)) fun v_3 => (F2_atLeast_L9 σ t0 n) v_3 (x4 + 1))
set_option maxRecDepth 20000 in
theorem c2_atLeast_L9 {l : Launch} {D : va_G} {ad : Nat → Nat → Nat → Nat} {cid : Nat → Nat → Nat → ClassId} {α : Type} {emb : α → Option Value} (σ : Mem) (t0 : Nat) (ht0 : t0 < 5) {G : Int64 → Option (α × Mem)} (kx : ∀ r, AW (XC l D ad cid) M2_atLeast 0 emb [(2, .long r)] 33 [] σ (G r)) : ∀ (n : Nat) (y2 : Int64) (x4 : Int32), AW (XC l D ad cid) M2_atLeast 0 emb [(0, .ref (ad 2 t0 0)), (2, .long y2), (4, .int x4)] 9 [] σ ((F2_atLeast_L9 σ t0 n y2 x4).bind G) := by
  intro n
  induction n with
  | zero => intros; exact aw_none
  | succ n ih =>
    intro y2 x4
    rw [F2_atLeast_L9.eq_2]
    refine aw_iload 2 dX2_atLeast_9 rfl ?_
    refine aw_bipush 20 dX2_atLeast_11 (by decide) ?_
    refine aw_icmp_gt 33 dX2_atLeast_13 (by decide) ?_ ?_
    · refine aw_ls (ls' := [(2, .long y2)]) [1] rfl ?_
      exact kx y2
    · refine aw_lload_n 1 dX2_atLeast_16 rfl rfl ?_
      refine aw_aload_n 0 dX2_atLeast_17 rfl rfl ?_
      refine aw_getf (fg_2_0 (by omega)) ci_2 (by decide) w_617 dX2_atLeast_18 ?_
      refine aw_iload 2 dX2_atLeast_21 rfl ?_
      refine aw_iaload (ar_2_1 (by omega)) dX2_atLeast_23 (fun v_2 => ?_)
      refine aw_i2l dX2_atLeast_24 ?_
      refine aw_ladd dX2_atLeast_25 ?_
      refine aw_bnd_long (fun v_3 => ?_)
      refine aw_lstore_n (ls' := [(0, .ref (ad 2 t0 0)), (2, .long v_3), (4, .int x4)]) [1, 0, 2] dX2_atLeast_26 rfl (by decide) rfl ?_
      refine aw_iinc (ls' := [(0, .ref (ad 2 t0 0)), (2, .long v_3), (4, .int (x4 + 1))]) (x4 + 1) 2 [1, 2, 0] dX2_atLeast_27 rfl (by rfl) (by decide) rfl ?_
      refine aw_goto 9 dX2_atLeast_30 (by decide) ?_
      exact ih v_3 (x4 + 1)
def F2_atLeast (σ : Mem) (t0 : Nat) (x1 : Int32) : Option Int64 :=
  bnd (iMax 0 x1) fun v_1 => (F2_atLeast_L9 σ t0 fuelK 0 v_1).bind fun r_4 => some r_4
set_option maxRecDepth 20000 in
theorem c2_atLeast {l : Launch} {D : va_G} {ad : Nat → Nat → Nat → Nat} {cid : Nat → Nat → Nat → ClassId} (σ : Mem) (t0 : Nat) (ht0 : t0 < 5) (x1 : Int32) : AMF (XC l D ad cid) M2_atLeast 0 eL [.ref (ad 2 t0 0), .int x1] σ (oM σ (F2_atLeast σ t0 x1)) := by
  refine AM.ofW (by decide +kernel) (Nat.le_of_ble_eq_true rfl) (ls := [(0, .ref (ad 2 t0 0)), (1, .int x1)]) rfl ?_
  refine aw_entryO ?_
  unfold F2_atLeast
  refine aw_lconst 0 dX2_atLeast_0 (by decide) ?_
  refine aw_lstore_n (ls' := [(0, .ref (ad 2 t0 0)), (1, .int x1), (2, .long 0)]) [1, 2, 0] dX2_atLeast_1 rfl (by decide) rfl ?_
  refine aw_iconst 0 dX2_atLeast_2 (by decide) ?_
  refine aw_iload_n 1 dX2_atLeast_3 rfl rfl ?_
  refine aw_max w_1171 w_867 w_159 w_868 (Nat.le_of_ble_eq_true rfl) dX2_atLeast_4 ?_
  refine aw_bnd_int (fun v_1 => ?_)
  refine aw_istore (ls' := [(0, .ref (ad 2 t0 0)), (2, .long 0), (4, .int v_1)]) [1, 3, 0] dX2_atLeast_7 (by decide) rfl ?_
  refine aw_assoc ?_
  refine c2_atLeast_L9 σ t0 (by omega) (fun r_4 => ?_) fuelK 0 v_1
  refine aw_lload_n 0 dX2_atLeast_33 rfl rfl ?_
  exact aw_lreturn rfl dX2_atLeast_34
def F11_commonDivisor_L9 (σ : Mem)  : Nat → Int64 → Int64 → Int32 → Option (Int64)
  | 0 => fun _ _ _ => none
  | n + 1 => fun y4 y6 x8 =>
    if 130 ≤ x8 then (some y4) else (if y6 = 0 then (some y4) else (if y6 = 0 then none else bnd (lRem y4 y6) fun v_1 => (F11_commonDivisor_L9 σ n) y6 v_1 (x8 + 1)))
set_option maxRecDepth 20000 in
theorem c11_commonDivisor_L9 {l : Launch} {D : va_G} {ad : Nat → Nat → Nat → Nat} {cid : Nat → Nat → Nat → ClassId} {α : Type} {emb : α → Option Value} (σ : Mem)  {G : Int64 → Option (α × Mem)} (kx : ∀ r, AW (XC l D ad cid) M11_commonDivisor 0 emb [(4, .long r)] 45 [] σ (G r)) : ∀ (n : Nat) (y4 : Int64) (y6 : Int64) (x8 : Int32), AW (XC l D ad cid) M11_commonDivisor 0 emb [(4, .long y4), (6, .long y6), (8, .int x8)] 9 [] σ ((F11_commonDivisor_L9 σ  n y4 y6 x8).bind G) := by
  intro n
  induction n with
  | zero => intros; exact aw_none
  | succ n ih =>
    intro y4 y6 x8
    rw [F11_commonDivisor_L9.eq_2]
    refine aw_iload 2 dX11_commonDivisor_9 rfl ?_
    refine aw_sipush 130 dX11_commonDivisor_11 (by decide) ?_
    refine aw_icmp_ge 45 dX11_commonDivisor_14 (by decide) ?_ ?_
    · refine aw_ls (ls' := [(4, .long y4)]) [0] rfl ?_
      exact kx y4
    · refine aw_lload 1 dX11_commonDivisor_17 rfl ?_
      refine aw_lconst 0 dX11_commonDivisor_19 (by decide) ?_
      refine aw_lcmp dX11_commonDivisor_20 ?_
      refine aw_lif_eq 45 dX11_commonDivisor_21 (by decide) ?_ ?_
      · refine aw_ls (ls' := [(4, .long y4)]) [0] rfl ?_
        exact kx y4
      · refine aw_lload 0 dX11_commonDivisor_24 rfl ?_
        refine aw_lload 1 dX11_commonDivisor_26 rfl ?_
        refine aw_lrem dX11_commonDivisor_28 ?_
        refine aw_bnd_long (fun v_1 => ?_)
        refine aw_lstore (ls' := [(6, .long y6), (8, .int x8), (9, .long v_1)]) [2, 3, 0] dX11_commonDivisor_29 (by decide) rfl ?_
        refine aw_lload 0 dX11_commonDivisor_31 rfl ?_
        refine aw_lstore (ls' := [(4, .long y6), (8, .int x8), (9, .long v_1)]) [0, 2, 3] dX11_commonDivisor_33 (by decide) rfl ?_
        refine aw_lload 2 dX11_commonDivisor_35 rfl ?_
        refine aw_lstore (ls' := [(4, .long y6), (6, .long v_1), (8, .int x8)]) [1, 0, 2] dX11_commonDivisor_37 (by decide) rfl ?_
        refine aw_iinc (ls' := [(4, .long y6), (6, .long v_1), (8, .int (x8 + 1))]) (x8 + 1) 2 [1, 2, 0] dX11_commonDivisor_39 rfl (by rfl) (by decide) rfl ?_
        refine aw_goto 9 dX11_commonDivisor_42 (by decide) ?_
        exact ih y6 v_1 (x8 + 1)
def F11_commonDivisor (σ : Mem) (y0 : Int64) (y2 : Int64) : Option Int64 :=
  (F11_commonDivisor_L9 σ  fuelK y0 y2 0).bind fun r_2 => some r_2
set_option maxRecDepth 20000 in
theorem c11_commonDivisor {l : Launch} {D : va_G} {ad : Nat → Nat → Nat → Nat} {cid : Nat → Nat → Nat → ClassId} (σ : Mem) (y0 : Int64) (y2 : Int64) : AMF (XC l D ad cid) M11_commonDivisor 0 eL [.long y0, .long y2] σ (oM σ (F11_commonDivisor σ y0 y2)) := by
  refine AM.ofW (by decide +kernel) (Nat.le_of_ble_eq_true rfl) (ls := [(0, .long y0), (2, .long y2)]) rfl ?_
  refine aw_entryO ?_
  unfold F11_commonDivisor
  refine aw_lload_n 0 dX11_commonDivisor_0 rfl rfl ?_
  refine aw_lstore (ls' := [(2, .long y2), (4, .long y0)]) [2, 0] dX11_commonDivisor_1 (by decide) rfl ?_
  refine aw_lload_n 0 dX11_commonDivisor_3 rfl rfl ?_
  refine aw_lstore (ls' := [(4, .long y0), (6, .long y2)]) [2, 0] dX11_commonDivisor_4 (by decide) rfl ?_
  refine aw_iconst 0 dX11_commonDivisor_6 (by decide) ?_
  refine aw_istore (ls' := [(4, .long y0), (6, .long y2), (8, .int 0)]) [1, 2, 0] dX11_commonDivisor_7 (by decide) rfl ?_
  refine aw_assoc ?_
  refine c11_commonDivisor_L9 σ  (fun r_2 => ?_) fuelK y0 y2 0
  refine aw_lload 0 dX11_commonDivisor_45 rfl ?_
  exact aw_lreturn rfl dX11_commonDivisor_47
def F11_tell (σ : Mem) (y1 : Int64) (y3 : Int64) : Option (Unit × Mem) :=
  (F11_commonDivisor σ (lAbs y1) y3).bind fun v_1 => if y1 = 0 then (bnd (sL σ 11 0 0 1 0) fun s_2 => bnd (sL s_2 11 0 0 2 1) fun s_3 => some ((), s_3)) else (if 0 < v_1 then (if v_1 = 0 then none else bnd (sL σ 11 0 0 1 (y1 / v_1)) fun s_4 => if v_1 = 0 then none else bnd (sL s_4 11 0 0 2 (y3 / v_1)) fun s_5 => some ((), s_5)) else (bnd (sL σ 11 0 0 1 0) fun s_6 => bnd (sL s_6 11 0 0 2 1) fun s_7 => some ((), s_7)))
set_option maxRecDepth 20000 in
theorem c11_tell {l : Launch} {D : va_G} {ad : Nat → Nat → Nat → Nat} {cid : Nat → Nat → Nat → ClassId} (σ : Mem) (y1 : Int64) (y3 : Int64) : AMF (XC l D ad cid) M11_tell 1 eU [.ref (ad 11 0 0), .long y1, .long y3] σ (F11_tell σ y1 y3) := by
  refine AM.ofW (by decide +kernel) (Nat.le_of_ble_eq_true rfl) (ls := [(0, .ref (ad 11 0 0)), (1, .long y1), (3, .long y3)]) rfl ?_
  refine aw_entry ?_
  unfold F11_tell
  refine aw_lload_n 1 dX11_tell_0 rfl rfl ?_
  refine aw_labs w_1176 w_1177 w_159 w_1178 (Nat.le_of_ble_eq_true rfl) dX11_tell_1 ?_
  refine aw_lload_n 2 dX11_tell_4 rfl rfl ?_
  refine aw_callSO_L (c11_commonDivisor σ (lAbs y1) y3) (by decide) mk_11_commonDivisor w_1180 w_1179 rfl rfl (Nat.le_of_ble_eq_true rfl) dX11_tell_5 (fun v_1 => ?_)
  refine aw_lstore (ls' := [(0, .ref (ad 11 0 0)), (1, .long y1), (3, .long y3), (5, .long v_1)]) [1, 2, 3, 0] dX11_tell_8 (by decide) rfl ?_
  refine aw_lload_n 1 dX11_tell_10 rfl rfl ?_
  refine aw_lconst 0 dX11_tell_11 (by decide) ?_
  refine aw_lcmp dX11_tell_12 ?_
  refine aw_lif_eq 23 dX11_tell_13 (by decide) ?_ ?_
  · refine aw_aload_n 0 dX11_tell_23 rfl rfl ?_
    refine aw_lconst 0 dX11_tell_24 (by decide) ?_
    refine aw_putL (fs_11_1 (by decide)) ci_11 (by decide) rfl rfl w_718 dX11_tell_25 ?_
    refine aw_bndM (fun s_2 => ?_)
    refine aw_aload_n 0 dX11_tell_28 rfl rfl ?_
    refine aw_lconst 1 dX11_tell_29 (by decide) ?_
    refine aw_putL (fs_11_2 (by decide)) ci_11 (by decide) rfl rfl w_719 dX11_tell_30 ?_
    refine aw_bndM (fun s_3 => ?_)
    exact aw_return rfl dX11_tell_33
  · refine aw_lload 3 dX11_tell_16 rfl ?_
    refine aw_lconst 0 dX11_tell_18 (by decide) ?_
    refine aw_lcmp dX11_tell_19 ?_
    refine aw_lif_gt 34 dX11_tell_20 (by decide) ?_ ?_
    · refine aw_aload_n 0 dX11_tell_34 rfl rfl ?_
      refine aw_lload_n 1 dX11_tell_35 rfl rfl ?_
      refine aw_lload 3 dX11_tell_36 rfl ?_
      refine aw_ldiv dX11_tell_38 ?_
      refine aw_putL (fs_11_1 (by decide)) ci_11 (by decide) rfl rfl w_718 dX11_tell_39 ?_
      refine aw_bndM (fun s_4 => ?_)
      refine aw_aload_n 0 dX11_tell_42 rfl rfl ?_
      refine aw_lload_n 2 dX11_tell_43 rfl rfl ?_
      refine aw_lload 3 dX11_tell_44 rfl ?_
      refine aw_ldiv dX11_tell_46 ?_
      refine aw_putL (fs_11_2 (by decide)) ci_11 (by decide) rfl rfl w_719 dX11_tell_47 ?_
      refine aw_bndM (fun s_5 => ?_)
      exact aw_return rfl dX11_tell_50
    · refine aw_aload_n 0 dX11_tell_23 rfl rfl ?_
      refine aw_lconst 0 dX11_tell_24 (by decide) ?_
      refine aw_putL (fs_11_1 (by decide)) ci_11 (by decide) rfl rfl w_718 dX11_tell_25 ?_
      refine aw_bndM (fun s_6 => ?_)
      refine aw_aload_n 0 dX11_tell_28 rfl rfl ?_
      refine aw_lconst 1 dX11_tell_29 (by decide) ?_
      refine aw_putL (fs_11_2 (by decide)) ci_11 (by decide) rfl rfl w_719 dX11_tell_30 ?_
      refine aw_bndM (fun s_7 => ?_)
      exact aw_return rfl dX11_tell_33
def F11_odds (σ : Mem) (x1 : Int32) (x2 : Int32) (x3 : Int32) (x4 : Int32) (x5 : Int32) (x6 : Int32) (x7 : Int32) : Option (Bool × Mem) :=
  (F11_wrongShot σ x1 x2 x3 x4 x5 x6).bind fun v_1 => if v_1 = 0 then (if (F11_within x7 1 20) = true then (bd (F11_takeShot σ x1 x2 x3 x4 x5 x6) fun _ s_2 => gd 5 (gR s_2 11 0 0 5) fun t_3 => bd (F2_reckon s_2 0 t_3 0) fun _ s_4 => (F2_atLeast s_4 0 x7).bind fun v_5 => bd (F11_tell s_4 v_5 (Int32.toInt64 (gI s_4 2 0 0 1))) fun _ s_6 => bd (F11_agree s_6) fun v_7 s_8 => some (v_7, s_8)) else (bd (F11_deny σ 5) fun v_9 s_10 => some (v_9, s_10))) else (bd (F11_deny σ v_1) fun v_11 s_12 => some (v_11, s_12))
set_option maxRecDepth 20000 in
theorem c11_odds {l : Launch} {D : va_G} {ad : Nat → Nat → Nat → Nat} {cid : Nat → Nat → Nat → ClassId} (σ : Mem) (x1 : Int32) (x2 : Int32) (x3 : Int32) (x4 : Int32) (x5 : Int32) (x6 : Int32) (x7 : Int32) : AMF (XC l D ad cid) M11_odds 5 eB [.ref (ad 11 0 0), .int x1, .int x2, .int x3, .int x4, .int x5, .int x6, .int x7] σ (F11_odds σ x1 x2 x3 x4 x5 x6 x7) := by
  refine AM.ofW (by decide +kernel) (Nat.le_of_ble_eq_true rfl) (ls := [(0, .ref (ad 11 0 0)), (1, .int x1), (2, .int x2), (3, .int x3), (4, .int x4), (5, .int x5), (6, .int x6), (7, .int x7)]) rfl ?_
  refine aw_entry ?_
  unfold F11_odds
  refine aw_aload_n 0 dX11_odds_0 rfl rfl ?_
  refine aw_iload_n 1 dX11_odds_1 rfl rfl ?_
  refine aw_iload_n 2 dX11_odds_2 rfl rfl ?_
  refine aw_iload_n 3 dX11_odds_3 rfl rfl ?_
  refine aw_iload 4 dX11_odds_4 rfl ?_
  refine aw_iload 5 dX11_odds_6 rfl ?_
  refine aw_iload 6 dX11_odds_8 rfl ?_
  refine aw_callVO_I (c11_wrongShot σ x1 x2 x3 x4 x5 x6) (io_11 (by decide)) ci_11 (by decide) mk_11_wrongShot w_1113 w_28 w_1111 rfl rfl (Nat.le_of_ble_eq_true rfl) dX11_odds_10 (fun v_1 => ?_)
  refine aw_istore (ls' := [(0, .ref (ad 11 0 0)), (1, .int x1), (2, .int x2), (3, .int x3), (4, .int x4), (5, .int x5), (6, .int x6), (7, .int x7), (8, .int v_1)]) [1, 2, 3, 4, 5, 6, 7, 8, 0] dX11_odds_13 (by decide) rfl ?_
  refine aw_iload 8 dX11_odds_15 rfl ?_
  refine aw_if_eq 27 dX11_odds_17 (by decide) ?_ ?_
  · refine aw_iload 7 dX11_odds_27 rfl ?_
    refine aw_iconst 1 dX11_odds_29 (by decide) ?_
    refine aw_bipush 20 dX11_odds_30 (by decide) ?_
    refine aw_callST_B (c11_within σ x7 1 20) (by decide) mk_11_within w_798 w_797 rfl rfl (Nat.le_of_ble_eq_true rfl) dX11_odds_32 ?_
    refine aw_bif_ne 44 dX11_odds_35 (by decide) ?_ ?_
    · refine aw_aload_n 0 dX11_odds_44 rfl rfl ?_
      refine aw_iload_n 1 dX11_odds_45 rfl rfl ?_
      refine aw_iload_n 2 dX11_odds_46 rfl rfl ?_
      refine aw_iload_n 3 dX11_odds_47 rfl rfl ?_
      refine aw_iload 4 dX11_odds_48 rfl ?_
      refine aw_iload 5 dX11_odds_50 rfl ?_
      refine aw_iload 6 dX11_odds_52 rfl ?_
      refine aw_callVW_U (c11_takeShot σ x1 x2 x3 x4 x5 x6) (io_11 (by decide)) ci_11 (by decide) mk_11_takeShot w_1080 w_25 w_1078 rfl rfl (Nat.le_of_ble_eq_true rfl) dX11_odds_54 (fun _ s_2 => ?_)
      refine aw_aload_n 0 dX11_odds_57 rfl rfl ?_
      refine aw_getf (fg_11_14 (by decide)) ci_11 (by decide) w_731 dX11_odds_58 ?_
      refine aw_aload_n 0 dX11_odds_61 rfl rfl ?_
      refine aw_getf (fg_11_5 (by decide)) ci_11 (by decide) w_722 dX11_odds_62 ?_
      refine aw_gd (n := 5) (fun t_3 ht_3 => ?_)
      refine aw_aload_n 0 dX11_odds_65 rfl rfl ?_
      refine aw_getf (fg_11_13 (by decide)) ci_11 (by decide) w_730 dX11_odds_66 ?_
      refine aw_callVW_U (c2_reckon s_2 0 (by decide) t_3 (by omega) 0 (by decide)) (io_2 (by decide)) ci_2 (by decide) mk_2_reckon w_1154 w_1155 w_1153 rfl rfl (Nat.le_of_ble_eq_true rfl) dX11_odds_69 (fun _ s_4 => ?_)
      refine aw_aload_n 0 dX11_odds_72 rfl rfl ?_
      refine aw_aload_n 0 dX11_odds_73 rfl rfl ?_
      refine aw_getf (fg_11_14 (by decide)) ci_11 (by decide) w_731 dX11_odds_74 ?_
      refine aw_iload 7 dX11_odds_77 rfl ?_
      refine aw_callVO_L (c2_atLeast s_4 0 (by decide) x7) (io_2 (by decide)) ci_2 (by decide) mk_2_atLeast w_1168 w_1169 w_1167 rfl rfl (Nat.le_of_ble_eq_true rfl) dX11_odds_79 (fun v_5 => ?_)
      refine aw_aload_n 0 dX11_odds_82 rfl rfl ?_
      refine aw_getf (fg_11_14 (by decide)) ci_11 (by decide) w_731 dX11_odds_83 ?_
      refine aw_getf (fg_2_1 (by decide)) ci_2 (by decide) w_619 dX11_odds_86 ?_
      refine aw_i2l dX11_odds_89 ?_
      refine aw_callVW_U (c11_tell s_4 v_5 (Int32.toInt64 (gI s_4 2 0 0 1))) (io_11 (by decide)) ci_11 (by decide) mk_11_tell w_1174 w_30 w_1172 rfl rfl (Nat.le_of_ble_eq_true rfl) dX11_odds_90 (fun _ s_6 => ?_)
      refine aw_aload_n 0 dX11_odds_93 rfl rfl ?_
      refine aw_callVW_B (c11_agree s_6 ) (io_11 (by decide)) ci_11 (by decide) mk_11_agree w_813 w_1 w_811 rfl rfl (Nat.le_of_ble_eq_true rfl) dX11_odds_94 (fun v_7 s_8 => ?_)
      exact aw_zreturn (b := v_7) rfl rfl dX11_odds_97
    · refine aw_aload_n 0 dX11_odds_38 rfl rfl ?_
      refine aw_iconst 5 dX11_odds_39 (by decide) ?_
      refine aw_callVW_B (c11_deny σ 5) (io_11 (by decide)) ci_11 (by decide) mk_11_deny w_802 w_0 w_800 rfl rfl (Nat.le_of_ble_eq_true rfl) dX11_odds_40 (fun v_9 s_10 => ?_)
      exact aw_zreturn (b := v_9) rfl rfl dX11_odds_43
  · refine aw_aload_n 0 dX11_odds_20 rfl rfl ?_
    refine aw_iload 8 dX11_odds_21 rfl ?_
    refine aw_callVW_B (c11_deny σ v_1) (io_11 (by decide)) ci_11 (by decide) mk_11_deny w_802 w_0 w_800 rfl rfl (Nat.le_of_ble_eq_true rfl) dX11_odds_23 (fun v_11 s_12 => ?_)
    exact aw_zreturn (b := v_11) rfl rfl dX11_odds_26
def F2_sum_L4 (σ : Mem) (t0 : Nat) : Nat → Int64 → Int32 → Option (Int64)
  | 0 => fun _ _ => none
  | n + 1 => fun y1 x3 =>
    if 20 < x3 then (some y1) else ((ald 21 (gI σ 2 t0 1) x3).bind fun v_1 => bnd (y1 + ((Int32.toInt64 x3) * (Int32.toInt64 v_1))) fun v_2 => (F2_sum_L4 σ t0 n) v_2 (x3 + 1))
set_option maxRecDepth 20000 in
theorem c2_sum_L4 {l : Launch} {D : va_G} {ad : Nat → Nat → Nat → Nat} {cid : Nat → Nat → Nat → ClassId} {α : Type} {emb : α → Option Value} (σ : Mem) (t0 : Nat) (ht0 : t0 < 5) {G : Int64 → Option (α × Mem)} (kx : ∀ r, AW (XC l D ad cid) M2_sum 0 emb [(1, .long r)] 29 [] σ (G r)) : ∀ (n : Nat) (y1 : Int64) (x3 : Int32), AW (XC l D ad cid) M2_sum 0 emb [(0, .ref (ad 2 t0 0)), (1, .long y1), (3, .int x3)] 4 [] σ ((F2_sum_L4 σ t0 n y1 x3).bind G) := by
  intro n
  induction n with
  | zero => intros; exact aw_none
  | succ n ih =>
    intro y1 x3
    rw [F2_sum_L4.eq_2]
    refine aw_iload_n 2 dX2_sum_4 rfl rfl ?_
    refine aw_bipush 20 dX2_sum_5 (by decide) ?_
    refine aw_icmp_gt 29 dX2_sum_7 (by decide) ?_ ?_
    · refine aw_ls (ls' := [(1, .long y1)]) [1] rfl ?_
      exact kx y1
    · refine aw_lload_n 1 dX2_sum_10 rfl rfl ?_
      refine aw_iload_n 2 dX2_sum_11 rfl rfl ?_
      refine aw_i2l dX2_sum_12 ?_
      refine aw_aload_n 0 dX2_sum_13 rfl rfl ?_
      refine aw_getf (fg_2_0 (by omega)) ci_2 (by decide) w_617 dX2_sum_14 ?_
      refine aw_iload_n 2 dX2_sum_17 rfl rfl ?_
      refine aw_iaload (ar_2_1 (by omega)) dX2_sum_18 (fun v_1 => ?_)
      refine aw_i2l dX2_sum_19 ?_
      refine aw_lmul dX2_sum_20 ?_
      refine aw_ladd dX2_sum_21 ?_
      refine aw_bnd_long (fun v_2 => ?_)
      refine aw_lstore_n (ls' := [(0, .ref (ad 2 t0 0)), (1, .long v_2), (3, .int x3)]) [1, 0, 2] dX2_sum_22 rfl (by decide) rfl ?_
      refine aw_iinc (ls' := [(0, .ref (ad 2 t0 0)), (1, .long v_2), (3, .int (x3 + 1))]) (x3 + 1) 2 [1, 2, 0] dX2_sum_23 rfl (by rfl) (by decide) rfl ?_
      refine aw_goto 4 dX2_sum_26 (by decide) ?_
      exact ih v_2 (x3 + 1)
def F2_sum (σ : Mem) (t0 : Nat) : Option Int64 :=
  (F2_sum_L4 σ t0 fuelK 0 1).bind fun r_3 => some r_3
set_option maxRecDepth 20000 in
theorem c2_sum {l : Launch} {D : va_G} {ad : Nat → Nat → Nat → Nat} {cid : Nat → Nat → Nat → ClassId} (σ : Mem) (t0 : Nat) (ht0 : t0 < 5) : AMF (XC l D ad cid) M2_sum 0 eL [.ref (ad 2 t0 0)] σ (oM σ (F2_sum σ t0)) := by
  refine AM.ofW (by decide +kernel) (Nat.le_of_ble_eq_true rfl) (ls := [(0, .ref (ad 2 t0 0))]) rfl ?_
  refine aw_entryO ?_
  unfold F2_sum
  refine aw_lconst 0 dX2_sum_0 (by decide) ?_
  refine aw_lstore_n (ls' := [(0, .ref (ad 2 t0 0)), (1, .long 0)]) [1, 0] dX2_sum_1 rfl (by decide) rfl ?_
  refine aw_iconst 1 dX2_sum_2 (by decide) ?_
  refine aw_istore_n (ls' := [(0, .ref (ad 2 t0 0)), (1, .long 0), (3, .int 1)]) [1, 2, 0] dX2_sum_3 rfl (by decide) rfl ?_
  refine aw_assoc ?_
  refine c2_sum_L4 σ t0 (by omega) (fun r_3 => ?_) fuelK 0 1
  refine aw_lload_n 0 dX2_sum_29 rfl rfl ?_
  exact aw_lreturn rfl dX2_sum_30
def F11_mean (σ : Mem) (x1 : Int32) (x2 : Int32) (x3 : Int32) (x4 : Int32) (x5 : Int32) (x6 : Int32) : Option (Bool × Mem) :=
  (F11_wrongShot σ x1 x2 x3 x4 x5 x6).bind fun v_1 => if v_1 = 0 then (bd (F11_takeShot σ x1 x2 x3 x4 x5 x6) fun _ s_2 => gd 5 (gR s_2 11 0 0 5) fun t_3 => bd (F2_reckon s_2 0 t_3 0) fun _ s_4 => (F2_sum s_4 0).bind fun v_5 => bd (F11_tell s_4 v_5 (Int32.toInt64 (gI s_4 2 0 0 1))) fun _ s_6 => bd (F11_agree s_6) fun v_7 s_8 => some (v_7, s_8)) else (bd (F11_deny σ v_1) fun v_9 s_10 => some (v_9, s_10))
set_option maxRecDepth 20000 in
theorem c11_mean {l : Launch} {D : va_G} {ad : Nat → Nat → Nat → Nat} {cid : Nat → Nat → Nat → ClassId} (σ : Mem) (x1 : Int32) (x2 : Int32) (x3 : Int32) (x4 : Int32) (x5 : Int32) (x6 : Int32) : AMF (XC l D ad cid) M11_mean 5 eB [.ref (ad 11 0 0), .int x1, .int x2, .int x3, .int x4, .int x5, .int x6] σ (F11_mean σ x1 x2 x3 x4 x5 x6) := by
  refine AM.ofW (by decide +kernel) (Nat.le_of_ble_eq_true rfl) (ls := [(0, .ref (ad 11 0 0)), (1, .int x1), (2, .int x2), (3, .int x3), (4, .int x4), (5, .int x5), (6, .int x6)]) rfl ?_
  refine aw_entry ?_
  unfold F11_mean
  refine aw_aload_n 0 dX11_mean_0 rfl rfl ?_
  refine aw_iload_n 1 dX11_mean_1 rfl rfl ?_
  refine aw_iload_n 2 dX11_mean_2 rfl rfl ?_
  refine aw_iload_n 3 dX11_mean_3 rfl rfl ?_
  refine aw_iload 4 dX11_mean_4 rfl ?_
  refine aw_iload 5 dX11_mean_6 rfl ?_
  refine aw_iload 6 dX11_mean_8 rfl ?_
  refine aw_callVO_I (c11_wrongShot σ x1 x2 x3 x4 x5 x6) (io_11 (by decide)) ci_11 (by decide) mk_11_wrongShot w_1113 w_28 w_1111 rfl rfl (Nat.le_of_ble_eq_true rfl) dX11_mean_10 (fun v_1 => ?_)
  refine aw_istore (ls' := [(0, .ref (ad 11 0 0)), (1, .int x1), (2, .int x2), (3, .int x3), (4, .int x4), (5, .int x5), (6, .int x6), (7, .int v_1)]) [1, 2, 3, 4, 5, 6, 7, 0] dX11_mean_13 (by decide) rfl ?_
  refine aw_iload 7 dX11_mean_15 rfl ?_
  refine aw_if_eq 27 dX11_mean_17 (by decide) ?_ ?_
  · refine aw_aload_n 0 dX11_mean_27 rfl rfl ?_
    refine aw_iload_n 1 dX11_mean_28 rfl rfl ?_
    refine aw_iload_n 2 dX11_mean_29 rfl rfl ?_
    refine aw_iload_n 3 dX11_mean_30 rfl rfl ?_
    refine aw_iload 4 dX11_mean_31 rfl ?_
    refine aw_iload 5 dX11_mean_33 rfl ?_
    refine aw_iload 6 dX11_mean_35 rfl ?_
    refine aw_callVW_U (c11_takeShot σ x1 x2 x3 x4 x5 x6) (io_11 (by decide)) ci_11 (by decide) mk_11_takeShot w_1080 w_25 w_1078 rfl rfl (Nat.le_of_ble_eq_true rfl) dX11_mean_37 (fun _ s_2 => ?_)
    refine aw_aload_n 0 dX11_mean_40 rfl rfl ?_
    refine aw_getf (fg_11_14 (by decide)) ci_11 (by decide) w_731 dX11_mean_41 ?_
    refine aw_aload_n 0 dX11_mean_44 rfl rfl ?_
    refine aw_getf (fg_11_5 (by decide)) ci_11 (by decide) w_722 dX11_mean_45 ?_
    refine aw_gd (n := 5) (fun t_3 ht_3 => ?_)
    refine aw_aload_n 0 dX11_mean_48 rfl rfl ?_
    refine aw_getf (fg_11_13 (by decide)) ci_11 (by decide) w_730 dX11_mean_49 ?_
    refine aw_callVW_U (c2_reckon s_2 0 (by decide) t_3 (by omega) 0 (by decide)) (io_2 (by decide)) ci_2 (by decide) mk_2_reckon w_1154 w_1155 w_1153 rfl rfl (Nat.le_of_ble_eq_true rfl) dX11_mean_52 (fun _ s_4 => ?_)
    refine aw_aload_n 0 dX11_mean_55 rfl rfl ?_
    refine aw_aload_n 0 dX11_mean_56 rfl rfl ?_
    refine aw_getf (fg_11_14 (by decide)) ci_11 (by decide) w_731 dX11_mean_57 ?_
    refine aw_callVO_L (c2_sum s_4 0 (by decide)) (io_2 (by decide)) ci_2 (by decide) mk_2_sum w_1187 w_1188 w_1186 rfl rfl (Nat.le_of_ble_eq_true rfl) dX11_mean_60 (fun v_5 => ?_)
    refine aw_aload_n 0 dX11_mean_63 rfl rfl ?_
    refine aw_getf (fg_11_14 (by decide)) ci_11 (by decide) w_731 dX11_mean_64 ?_
    refine aw_getf (fg_2_1 (by decide)) ci_2 (by decide) w_619 dX11_mean_67 ?_
    refine aw_i2l dX11_mean_70 ?_
    refine aw_callVW_U (c11_tell s_4 v_5 (Int32.toInt64 (gI s_4 2 0 0 1))) (io_11 (by decide)) ci_11 (by decide) mk_11_tell w_1174 w_30 w_1172 rfl rfl (Nat.le_of_ble_eq_true rfl) dX11_mean_71 (fun _ s_6 => ?_)
    refine aw_aload_n 0 dX11_mean_74 rfl rfl ?_
    refine aw_callVW_B (c11_agree s_6 ) (io_11 (by decide)) ci_11 (by decide) mk_11_agree w_813 w_1 w_811 rfl rfl (Nat.le_of_ble_eq_true rfl) dX11_mean_75 (fun v_7 s_8 => ?_)
    exact aw_zreturn (b := v_7) rfl rfl dX11_mean_78
  · refine aw_aload_n 0 dX11_mean_20 rfl rfl ?_
    refine aw_iload 7 dX11_mean_21 rfl ?_
    refine aw_callVW_B (c11_deny σ v_1) (io_11 (by decide)) ci_11 (by decide) mk_11_deny w_802 w_0 w_800 rfl rfl (Nat.le_of_ble_eq_true rfl) dX11_mean_23 (fun v_9 s_10 => ?_)
    exact aw_zreturn (b := v_9) rfl rfl dX11_mean_26
def F1_begin (σ : Mem)  : Option (Unit × Mem) :=
  bnd (sB σ 1 0 0 0 false) fun s_1 => bnd (sI s_1 1 0 0 1 (-1)) fun s_2 => bnd (sL s_2 1 0 0 2 0) fun s_3 => bnd (sL s_3 1 0 0 3 1) fun s_4 => some ((), s_4)
set_option maxRecDepth 20000 in
theorem c1_begin {l : Launch} {D : va_G} {ad : Nat → Nat → Nat → Nat} {cid : Nat → Nat → Nat → ClassId} (σ : Mem)  : AMF (XC l D ad cid) M1_begin 0 eU [.ref (ad 1 0 0)] σ (F1_begin σ) := by
  refine AM.ofW (by decide +kernel) (Nat.le_of_ble_eq_true rfl) (ls := [(0, .ref (ad 1 0 0))]) rfl ?_
  refine aw_entry ?_
  unfold F1_begin
  refine aw_aload_n 0 dX1_begin_0 rfl rfl ?_
  refine aw_iconst 0 dX1_begin_1 (by decide) ?_
  refine aw_putB (v := false) rfl (fs_1_0 (by decide)) ci_1 (by decide) rfl rfl w_648 dX1_begin_2 ?_
  refine aw_bndM (fun s_1 => ?_)
  refine aw_aload_n 0 dX1_begin_5 rfl rfl ?_
  refine aw_iconst (-1) dX1_begin_6 (by decide) ?_
  refine aw_putI (fs_1_1 (by decide)) ci_1 (by decide) rfl rfl w_650 dX1_begin_7 ?_
  refine aw_bndM (fun s_2 => ?_)
  refine aw_aload_n 0 dX1_begin_10 rfl rfl ?_
  refine aw_lconst 0 dX1_begin_11 (by decide) ?_
  refine aw_putL (fs_1_2 (by decide)) ci_1 (by decide) rfl rfl w_652 dX1_begin_12 ?_
  refine aw_bndM (fun s_3 => ?_)
  refine aw_aload_n 0 dX1_begin_15 rfl rfl ?_
  refine aw_lconst 1 dX1_begin_16 (by decide) ?_
  refine aw_putL (fs_1_3 (by decide)) ci_1 (by decide) rfl rfl w_654 dX1_begin_17 ?_
  refine aw_bndM (fun s_4 => ?_)
  exact aw_return rfl dX1_begin_20
def F1_offer (σ : Mem) (x1 : Int32) (y2 : Int64) (y4 : Int64) : Option (Unit × Mem) :=
  if (gB σ 1 0 0 0) = true then (if (y2 * (gL σ 1 0 0 3)) ≤ ((gL σ 1 0 0 2) * y4) then (some ((), σ)) else (bnd (sB σ 1 0 0 0 true) fun s_5 => bnd (sI s_5 1 0 0 1 x1) fun s_6 => bnd (sL s_6 1 0 0 2 y2) fun s_7 => bnd (sL s_7 1 0 0 3 y4) fun s_8 => some ((), s_8))) else (bnd (sB σ 1 0 0 0 true) fun s_1 => bnd (sI s_1 1 0 0 1 x1) fun s_2 => bnd (sL s_2 1 0 0 2 y2) fun s_3 => bnd (sL s_3 1 0 0 3 y4) fun s_4 => some ((), s_4))
set_option maxRecDepth 20000 in
theorem c1_offer {l : Launch} {D : va_G} {ad : Nat → Nat → Nat → Nat} {cid : Nat → Nat → Nat → ClassId} (σ : Mem) (x1 : Int32) (y2 : Int64) (y4 : Int64) : AMF (XC l D ad cid) M1_offer 0 eU [.ref (ad 1 0 0), .int x1, .long y2, .long y4] σ (F1_offer σ x1 y2 y4) := by
  refine AM.ofW (by decide +kernel) (Nat.le_of_ble_eq_true rfl) (ls := [(0, .ref (ad 1 0 0)), (1, .int x1), (2, .long y2), (4, .long y4)]) rfl ?_
  refine aw_entry ?_
  unfold F1_offer
  refine aw_aload_n 0 dX1_offer_0 rfl rfl ?_
  refine aw_getf (fg_1_0 (by decide)) ci_1 (by decide) w_648 dX1_offer_1 ?_
  refine aw_bif_eq 24 dX1_offer_4 (by decide) ?_ ?_
  · refine aw_aload_n 0 dX1_offer_24 rfl rfl ?_
    refine aw_iconst 1 dX1_offer_25 (by decide) ?_
    refine aw_putB (v := true) rfl (fs_1_0 (by decide)) ci_1 (by decide) rfl rfl w_648 dX1_offer_26 ?_
    refine aw_bndM (fun s_1 => ?_)
    refine aw_aload_n 0 dX1_offer_29 rfl rfl ?_
    refine aw_iload_n 1 dX1_offer_30 rfl rfl ?_
    refine aw_putI (fs_1_1 (by decide)) ci_1 (by decide) rfl rfl w_650 dX1_offer_31 ?_
    refine aw_bndM (fun s_2 => ?_)
    refine aw_aload_n 0 dX1_offer_34 rfl rfl ?_
    refine aw_lload_n 2 dX1_offer_35 rfl rfl ?_
    refine aw_putL (fs_1_2 (by decide)) ci_1 (by decide) rfl rfl w_652 dX1_offer_36 ?_
    refine aw_bndM (fun s_3 => ?_)
    refine aw_aload_n 0 dX1_offer_39 rfl rfl ?_
    refine aw_lload 3 dX1_offer_40 rfl ?_
    refine aw_putL (fs_1_3 (by decide)) ci_1 (by decide) rfl rfl w_654 dX1_offer_42 ?_
    refine aw_bndM (fun s_4 => ?_)
    exact aw_return rfl dX1_offer_45
  · refine aw_lload_n 2 dX1_offer_7 rfl rfl ?_
    refine aw_aload_n 0 dX1_offer_8 rfl rfl ?_
    refine aw_getf (fg_1_3 (by decide)) ci_1 (by decide) w_654 dX1_offer_9 ?_
    refine aw_lmul dX1_offer_12 ?_
    refine aw_aload_n 0 dX1_offer_13 rfl rfl ?_
    refine aw_getf (fg_1_2 (by decide)) ci_1 (by decide) w_652 dX1_offer_14 ?_
    refine aw_lload 3 dX1_offer_17 rfl ?_
    refine aw_lmul dX1_offer_19 ?_
    refine aw_lcmp dX1_offer_20 ?_
    refine aw_lif_le 45 dX1_offer_21 (by decide) ?_ ?_
    · exact aw_return rfl dX1_offer_45
    · refine aw_aload_n 0 dX1_offer_24 rfl rfl ?_
      refine aw_iconst 1 dX1_offer_25 (by decide) ?_
      refine aw_putB (v := true) rfl (fs_1_0 (by decide)) ci_1 (by decide) rfl rfl w_648 dX1_offer_26 ?_
      refine aw_bndM (fun s_5 => ?_)
      refine aw_aload_n 0 dX1_offer_29 rfl rfl ?_
      refine aw_iload_n 1 dX1_offer_30 rfl rfl ?_
      refine aw_putI (fs_1_1 (by decide)) ci_1 (by decide) rfl rfl w_650 dX1_offer_31 ?_
      refine aw_bndM (fun s_6 => ?_)
      refine aw_aload_n 0 dX1_offer_34 rfl rfl ?_
      refine aw_lload_n 2 dX1_offer_35 rfl rfl ?_
      refine aw_putL (fs_1_2 (by decide)) ci_1 (by decide) rfl rfl w_652 dX1_offer_36 ?_
      refine aw_bndM (fun s_7 => ?_)
      refine aw_aload_n 0 dX1_offer_39 rfl rfl ?_
      refine aw_lload 3 dX1_offer_40 rfl ?_
      refine aw_putL (fs_1_3 (by decide)) ci_1 (by decide) rfl rfl w_654 dX1_offer_42 ?_
      refine aw_bndM (fun s_8 => ?_)
      exact aw_return rfl dX1_offer_45
def F0_addColumn_L22 (t1 : Nat) (x3 : Int32) (x5 : Int32) (x6 : Int32) (x7 : Int32) : Nat → Mem → Int32 → Option ((Unit) × Mem)
  | 0 => fun _ _ => none
  | n + 1 => fun σ x8 =>
    if (41 + x7) ≤ x8 then (some ((), σ)) else ((F9_worthAt σ t1 x3 (x6 + x8)).bind fun v_4 => chk 53 x8 <| bnd (sI σ 0 0 2 (Int32.toNatClampNeg x8) v_4) fun s_5 => (F0_addColumn_L22 t1 x3 x5 x6 x7 n) s_5 (x8 + 1))
set_option maxRecDepth 20000 in
theorem c0_addColumn_L22 {l : Launch} {D : va_G} {ad : Nat → Nat → Nat → Nat} {cid : Nat → Nat → Nat → ClassId} {α : Type} {emb : α → Option Value} (t1 : Nat) (ht1 : t1 < 5) (x3 : Int32) (x5 : Int32) (x6 : Int32) (x7 : Int32) {G : Unit → Mem → Option (α × Mem)} (kx : ∀ r σ, AW (XC l D ad cid) M0_addColumn 2 emb [(0, .ref (ad 0 0 0)), (5, .int x5), (7, .int x7)] 55 [] σ (G r σ)) : ∀ (n : Nat) (σ : Mem) (x8 : Int32), AW (XC l D ad cid) M0_addColumn 2 emb [(0, .ref (ad 0 0 0)), (1, .ref (ad 9 t1 0)), (3, .int x3), (5, .int x5), (6, .int x6), (7, .int x7), (8, .int x8)] 22 [] σ (bd (F0_addColumn_L22 t1 x3 x5 x6 x7 n σ x8) G) := by
  intro n
  induction n with
  | zero => intros; exact aw_none
  | succ n ih =>
    intro σ x8
    refine aw_bdB ?_
    rw [F0_addColumn_L22.eq_2]
    refine aw_iload 6 dX0_addColumn_22 rfl ?_
    refine aw_bipush 41 dX0_addColumn_24 (by decide) ?_
    refine aw_iload 5 dX0_addColumn_26 rfl ?_
    refine aw_iadd dX0_addColumn_28 ?_
    refine aw_icmp_ge 55 dX0_addColumn_29 (by decide) ?_ ?_
    · refine aw_ls (ls' := [(0, .ref (ad 0 0 0)), (5, .int x5), (7, .int x7)]) [0, 3, 5] rfl ?_
      exact kx () σ
    · refine aw_aload_n 0 dX0_addColumn_32 rfl rfl ?_
      refine aw_getf (fg_0_1 (by decide)) ci_0 (by decide) w_636 dX0_addColumn_33 ?_
      refine aw_iload 6 dX0_addColumn_36 rfl ?_
      refine aw_aload_n 1 dX0_addColumn_38 rfl rfl ?_
      refine aw_iload_n 2 dX0_addColumn_39 rfl rfl ?_
      refine aw_iload 4 dX0_addColumn_40 rfl ?_
      refine aw_iload 6 dX0_addColumn_42 rfl ?_
      refine aw_iadd dX0_addColumn_44 ?_
      refine aw_callVO_I (c9_worthAt σ t1 (by omega) x3 (x6 + x8)) (io_9 (by omega)) ci_9 (by decide) mk_9_worthAt w_1128 w_1129 w_1220 rfl rfl (Nat.le_of_ble_eq_true rfl) dX0_addColumn_45 (fun v_4 => ?_)
      refine aw_iastore (ar_0_2 (by decide)) dX0_addColumn_48 ?_
      refine aw_bndM (fun s_5 => ?_)
      refine aw_iinc (ls' := [(0, .ref (ad 0 0 0)), (1, .ref (ad 9 t1 0)), (3, .int x3), (5, .int x5), (6, .int x6), (7, .int x7), (8, .int (x8 + 1))]) (x8 + 1) 6 [1, 2, 3, 4, 5, 6, 0] dX0_addColumn_49 rfl (by rfl) (by decide) rfl ?_
      refine aw_goto 22 dX0_addColumn_52 (by decide) ?_
      exact ih s_5 (x8 + 1)
def F0_addColumn_L61 (σ : Mem) (x5 : Int32) (x7 : Int32) : Nat → Int32 → Int32 → Option (Int32)
  | 0 => fun _ _ => none
  | n + 1 => fun x8 x9 =>
    if x7 ≤ x9 then (some x8) else ((ald 53 (gI σ 0 0 2) x9).bind fun v_8 => bnd (x8 + v_8) fun v_9 => (F0_addColumn_L61 σ x5 x7 n) v_9 (x9 + 1))
set_option maxRecDepth 20000 in
theorem c0_addColumn_L61 {l : Launch} {D : va_G} {ad : Nat → Nat → Nat → Nat} {cid : Nat → Nat → Nat → ClassId} {α : Type} {emb : α → Option Value} (σ : Mem) (x5 : Int32) (x7 : Int32) {G : Int32 → Option (α × Mem)} (kx : ∀ r, AW (XC l D ad cid) M0_addColumn 2 emb [(0, .ref (ad 0 0 0)), (5, .int x5), (7, .int x7), (8, .int r)] 86 [] σ (G r)) : ∀ (n : Nat) (x8 : Int32) (x9 : Int32), AW (XC l D ad cid) M0_addColumn 2 emb [(0, .ref (ad 0 0 0)), (5, .int x5), (7, .int x7), (8, .int x8), (9, .int x9)] 61 [] σ ((F0_addColumn_L61 σ x5 x7 n x8 x9).bind G) := by
  intro n
  induction n with
  | zero => intros; exact aw_none
  | succ n ih =>
    intro x8 x9
    rw [F0_addColumn_L61.eq_2]
    refine aw_iload 4 dX0_addColumn_61 rfl ?_
    refine aw_iload 2 dX0_addColumn_63 rfl ?_
    refine aw_icmp_ge 86 dX0_addColumn_65 (by decide) ?_ ?_
    · refine aw_ls (ls' := [(0, .ref (ad 0 0 0)), (5, .int x5), (7, .int x7), (8, .int x8)]) [0, 1, 2, 3] rfl ?_
      exact kx x8
    · refine aw_iload 3 dX0_addColumn_68 rfl ?_
      refine aw_aload_n 0 dX0_addColumn_70 rfl rfl ?_
      refine aw_getf (fg_0_1 (by decide)) ci_0 (by decide) w_636 dX0_addColumn_71 ?_
      refine aw_iload 4 dX0_addColumn_74 rfl ?_
      refine aw_iaload (ar_0_2 (by decide)) dX0_addColumn_76 (fun v_8 => ?_)
      refine aw_iadd dX0_addColumn_77 ?_
      refine aw_bnd_int (fun v_9 => ?_)
      refine aw_istore (ls' := [(0, .ref (ad 0 0 0)), (5, .int x5), (7, .int x7), (8, .int v_9), (9, .int x9)]) [1, 2, 3, 0, 4] dX0_addColumn_78 (by decide) rfl ?_
      refine aw_iinc (ls' := [(0, .ref (ad 0 0 0)), (5, .int x5), (7, .int x7), (8, .int v_9), (9, .int (x9 + 1))]) (x9 + 1) 4 [1, 2, 3, 4, 0] dX0_addColumn_80 rfl (by rfl) (by decide) rfl ?_
      refine aw_goto 61 dX0_addColumn_83 (by decide) ?_
      exact ih v_9 (x9 + 1)
def F0_addColumn_L89 (x5 : Int32) (x7 : Int32) : Nat → Mem → Int32 → Int32 → Option ((Unit) × Mem)
  | 0 => fun _ _ _ => none
  | n + 1 => fun σ x8 x9 =>
    if 41 ≤ x9 then (some ((), σ)) else ((ald 53 (gI σ 0 0 2) (x9 + x7)).bind fun v_11 => bnd (x8 + v_11) fun v_12 => (ald 41 (gI σ 0 0 1) x9).bind fun v_13 => chk 41 x9 <| bnd (sI σ 0 0 1 (Int32.toNatClampNeg x9) (v_13 + (x5 * v_12))) fun s_14 => (ald 53 (gI s_14 0 0 2) x9).bind fun v_15 => bnd (v_12 - v_15) fun v_16 => (F0_addColumn_L89 x5 x7 n) s_14 v_16 (x9 + 1))
set_option maxRecDepth 20000 in
theorem c0_addColumn_L89 {l : Launch} {D : va_G} {ad : Nat → Nat → Nat → Nat} {cid : Nat → Nat → Nat → ClassId} {α : Type} {emb : α → Option Value} (x5 : Int32) (x7 : Int32) {G : Unit → Mem → Option (α × Mem)} (kx : ∀ r σ, AW (XC l D ad cid) M0_addColumn 2 emb [] 144 [] σ (G r σ)) : ∀ (n : Nat) (σ : Mem) (x8 : Int32) (x9 : Int32), AW (XC l D ad cid) M0_addColumn 2 emb [(0, .ref (ad 0 0 0)), (5, .int x5), (7, .int x7), (8, .int x8), (9, .int x9)] 89 [] σ (bd (F0_addColumn_L89 x5 x7 n σ x8 x9) G) := by
  intro n
  induction n with
  | zero => intros; exact aw_none
  | succ n ih =>
    intro σ x8 x9
    refine aw_bdB ?_
    rw [F0_addColumn_L89.eq_2]
    refine aw_iload 4 dX0_addColumn_89 rfl ?_
    refine aw_bipush 41 dX0_addColumn_91 (by decide) ?_
    refine aw_icmp_ge 144 dX0_addColumn_93 (by decide) ?_ ?_
    · refine aw_ls (ls' := []) [] rfl ?_
      exact kx () σ
    · refine aw_iload 3 dX0_addColumn_96 rfl ?_
      refine aw_aload_n 0 dX0_addColumn_98 rfl rfl ?_
      refine aw_getf (fg_0_1 (by decide)) ci_0 (by decide) w_636 dX0_addColumn_99 ?_
      refine aw_iload 4 dX0_addColumn_102 rfl ?_
      refine aw_iload 2 dX0_addColumn_104 rfl ?_
      refine aw_iadd dX0_addColumn_106 ?_
      refine aw_iaload (ar_0_2 (by decide)) dX0_addColumn_107 (fun v_11 => ?_)
      refine aw_iadd dX0_addColumn_108 ?_
      refine aw_bnd_int (fun v_12 => ?_)
      refine aw_istore (ls' := [(0, .ref (ad 0 0 0)), (5, .int x5), (7, .int x7), (8, .int v_12), (9, .int x9)]) [1, 2, 3, 0, 4] dX0_addColumn_109 (by decide) rfl ?_
      refine aw_aload_n 0 dX0_addColumn_111 rfl rfl ?_
      refine aw_getf (fg_0_0 (by decide)) ci_0 (by decide) w_635 dX0_addColumn_112 ?_
      refine aw_iload 4 dX0_addColumn_115 rfl ?_
      refine aw_dup2_11 dX0_addColumn_117 rfl rfl ?_
      refine aw_iaload (ar_0_1 (by decide)) dX0_addColumn_118 (fun v_13 => ?_)
      refine aw_iload 1 dX0_addColumn_119 rfl ?_
      refine aw_iload 3 dX0_addColumn_121 rfl ?_
      refine aw_imul dX0_addColumn_123 ?_
      refine aw_iadd dX0_addColumn_124 ?_
      refine aw_iastore (ar_0_1 (by decide)) dX0_addColumn_125 ?_
      refine aw_bndM (fun s_14 => ?_)
      refine aw_iload 3 dX0_addColumn_126 rfl ?_
      refine aw_aload_n 0 dX0_addColumn_128 rfl rfl ?_
      refine aw_getf (fg_0_1 (by decide)) ci_0 (by decide) w_636 dX0_addColumn_129 ?_
      refine aw_iload 4 dX0_addColumn_132 rfl ?_
      refine aw_iaload (ar_0_2 (by decide)) dX0_addColumn_134 (fun v_15 => ?_)
      refine aw_isub dX0_addColumn_135 ?_
      refine aw_bnd_int (fun v_16 => ?_)
      refine aw_istore (ls' := [(0, .ref (ad 0 0 0)), (5, .int x5), (7, .int x7), (8, .int v_16), (9, .int x9)]) [1, 2, 3, 0, 4] dX0_addColumn_136 (by decide) rfl ?_
      refine aw_iinc (ls' := [(0, .ref (ad 0 0 0)), (5, .int x5), (7, .int x7), (8, .int v_16), (9, .int (x9 + 1))]) (x9 + 1) 4 [1, 2, 3, 4, 0] dX0_addColumn_138 rfl (by rfl) (by decide) rfl ?_
      refine aw_goto 89 dX0_addColumn_141 (by decide) ?_
      exact ih s_14 v_16 (x9 + 1)
def F0_addColumn (σ : Mem) (t1 : Nat) (t2 : Nat) (x3 : Int32) (x4 : Int32) (x5 : Int32) : Option (Unit × Mem) :=
  (F6_strikeY σ t2 t1).bind fun v_1 => bnd ((v_1 - 20) - x4) fun v_2 => bnd (2 * x4) fun v_3 => bd (F0_addColumn_L22 t1 x3 x5 v_2 v_3 fuelK σ 0) fun r_6 s_7 => (F0_addColumn_L61 s_7 x5 v_3 fuelK 0 0).bind fun r_10 => bd (F0_addColumn_L89 x5 v_3 fuelK s_7 r_10 0) fun r_17 s_18 => some ((), s_18)
set_option maxRecDepth 20000 in
theorem c0_addColumn {l : Launch} {D : va_G} {ad : Nat → Nat → Nat → Nat} {cid : Nat → Nat → Nat → ClassId} (σ : Mem) (t1 : Nat) (ht1 : t1 < 5) (t2 : Nat) (ht2 : t2 < 3) (x3 : Int32) (x4 : Int32) (x5 : Int32) : AMF (XC l D ad cid) M0_addColumn 2 eU [.ref (ad 0 0 0), .ref (ad 9 t1 0), .ref (ad 6 t2 0), .int x3, .int x4, .int x5] σ (F0_addColumn σ t1 t2 x3 x4 x5) := by
  refine AM.ofW (by decide +kernel) (Nat.le_of_ble_eq_true rfl) (ls := [(0, .ref (ad 0 0 0)), (1, .ref (ad 9 t1 0)), (2, .ref (ad 6 t2 0)), (3, .int x3), (4, .int x4), (5, .int x5)]) rfl ?_
  refine aw_entry ?_
  unfold F0_addColumn
  refine aw_aload_n 2 dX0_addColumn_0 rfl rfl ?_
  refine aw_aload_n 1 dX0_addColumn_1 rfl rfl ?_
  refine aw_callVO_I (c6_strikeY σ t2 (by omega) t1 (by omega)) (io_6 (by omega)) ci_6 (by decide) mk_6_strikeY w_1120 w_1121 w_1219 rfl rfl (Nat.le_of_ble_eq_true rfl) dX0_addColumn_2 (fun v_1 => ?_)
  refine aw_bipush 20 dX0_addColumn_5 (by decide) ?_
  refine aw_isub dX0_addColumn_7 ?_
  refine aw_iload 4 dX0_addColumn_8 rfl ?_
  refine aw_isub dX0_addColumn_10 ?_
  refine aw_bnd_int (fun v_2 => ?_)
  refine aw_istore (ls' := [(0, .ref (ad 0 0 0)), (1, .ref (ad 9 t1 0)), (3, .int x3), (4, .int x4), (5, .int x5), (6, .int v_2)]) [1, 2, 4, 5, 6, 0] dX0_addColumn_11 (by decide) rfl ?_
  refine aw_iconst 2 dX0_addColumn_13 (by decide) ?_
  refine aw_iload 3 dX0_addColumn_14 rfl ?_
  refine aw_imul dX0_addColumn_16 ?_
  refine aw_bnd_int (fun v_3 => ?_)
  refine aw_istore (ls' := [(0, .ref (ad 0 0 0)), (1, .ref (ad 9 t1 0)), (3, .int x3), (5, .int x5), (6, .int v_2), (7, .int v_3)]) [1, 2, 3, 5, 6, 0] dX0_addColumn_17 (by decide) rfl ?_
  refine aw_iconst 0 dX0_addColumn_19 (by decide) ?_
  refine aw_istore (ls' := [(0, .ref (ad 0 0 0)), (1, .ref (ad 9 t1 0)), (3, .int x3), (5, .int x5), (6, .int v_2), (7, .int v_3), (8, .int 0)]) [1, 2, 3, 4, 5, 6, 0] dX0_addColumn_20 (by decide) rfl ?_
  refine aw_assocW ?_
  refine c0_addColumn_L22 t1 (by omega) x3 x5 v_2 v_3 (fun r_6 s_7 => ?_) fuelK σ 0
  refine aw_iconst 0 dX0_addColumn_55 (by decide) ?_
  refine aw_istore (ls' := [(0, .ref (ad 0 0 0)), (5, .int x5), (7, .int v_3), (8, .int 0)]) [1, 2, 3, 0] dX0_addColumn_56 (by decide) rfl ?_
  refine aw_iconst 0 dX0_addColumn_58 (by decide) ?_
  refine aw_istore (ls' := [(0, .ref (ad 0 0 0)), (5, .int x5), (7, .int v_3), (8, .int 0), (9, .int 0)]) [1, 2, 3, 4, 0] dX0_addColumn_59 (by decide) rfl ?_
  refine aw_assoc ?_
  refine c0_addColumn_L61 s_7 x5 v_3 (fun r_10 => ?_) fuelK 0 0
  refine aw_iconst 0 dX0_addColumn_86 (by decide) ?_
  refine aw_istore (ls' := [(0, .ref (ad 0 0 0)), (5, .int x5), (7, .int v_3), (8, .int r_10), (9, .int 0)]) [1, 2, 3, 4, 0] dX0_addColumn_87 (by decide) rfl ?_
  refine aw_assocW ?_
  refine c0_addColumn_L89 x5 v_3 (fun r_17 s_18 => ?_) fuelK s_7 r_10 0
  exact aw_return rfl dX0_addColumn_144
def F0_addColumns (σ : Mem) (t1 : Nat) (t2 : Nat) (x3 : Int32) (x4 : Int32) (x5 : Int32) : Option (Unit × Mem) :=
  if (gI σ 6 t2 0 13) = 0 then ((F6_strikeX σ t2 t1 0).bind fun v_5 => bd (F0_addColumn σ t1 t2 (x3 + v_5) x4 (2 * x5)) fun _ s_6 => some ((), s_6)) else ((F6_strikeX σ t2 t1 1).bind fun v_1 => bd (F0_addColumn σ t1 t2 (x3 + v_1) x4 x5) fun _ s_2 => (F6_strikeX s_2 t2 t1 (-1)).bind fun v_3 => bd (F0_addColumn s_2 t1 t2 (x3 + v_3) x4 x5) fun _ s_4 => some ((), s_4))
set_option maxRecDepth 20000 in
theorem c0_addColumns {l : Launch} {D : va_G} {ad : Nat → Nat → Nat → Nat} {cid : Nat → Nat → Nat → ClassId} (σ : Mem) (t1 : Nat) (ht1 : t1 < 5) (t2 : Nat) (ht2 : t2 < 3) (x3 : Int32) (x4 : Int32) (x5 : Int32) : AMF (XC l D ad cid) M0_addColumns 3 eU [.ref (ad 0 0 0), .ref (ad 9 t1 0), .ref (ad 6 t2 0), .int x3, .int x4, .int x5] σ (F0_addColumns σ t1 t2 x3 x4 x5) := by
  refine AM.ofW (by decide +kernel) (Nat.le_of_ble_eq_true rfl) (ls := [(0, .ref (ad 0 0 0)), (1, .ref (ad 9 t1 0)), (2, .ref (ad 6 t2 0)), (3, .int x3), (4, .int x4), (5, .int x5)]) rfl ?_
  refine aw_entry ?_
  unfold F0_addColumns
  refine aw_aload_n 2 dX0_addColumns_0 rfl rfl ?_
  refine aw_getf (fg_6_13 (by omega)) ci_6 (by decide) w_578 dX0_addColumns_1 ?_
  refine aw_if_ne 30 dX0_addColumns_4 (by decide) ?_ ?_
  · refine aw_aload_n 0 dX0_addColumns_30 rfl rfl ?_
    refine aw_aload_n 1 dX0_addColumns_31 rfl rfl ?_
    refine aw_aload_n 2 dX0_addColumns_32 rfl rfl ?_
    refine aw_iload_n 3 dX0_addColumns_33 rfl rfl ?_
    refine aw_aload_n 2 dX0_addColumns_34 rfl rfl ?_
    refine aw_aload_n 1 dX0_addColumns_35 rfl rfl ?_
    refine aw_iconst 1 dX0_addColumns_36 (by decide) ?_
    refine aw_callVO_I (c6_strikeX σ t2 (by omega) t1 (by omega) 1) (io_6 (by omega)) ci_6 (by decide) mk_6_strikeX w_1116 w_1117 w_1214 rfl rfl (Nat.le_of_ble_eq_true rfl) dX0_addColumns_37 (fun v_1 => ?_)
    refine aw_iadd dX0_addColumns_40 ?_
    refine aw_iload 4 dX0_addColumns_41 rfl ?_
    refine aw_iload 5 dX0_addColumns_43 rfl ?_
    refine aw_callVW_U (c0_addColumn σ t1 (by omega) t2 (by omega) (x3 + v_1) x4 x5) (io_0 (by decide)) ci_0 (by decide) mk_0_addColumn w_1217 w_32 w_1215 rfl rfl (Nat.le_of_ble_eq_true rfl) dX0_addColumns_45 (fun _ s_2 => ?_)
    refine aw_aload_n 0 dX0_addColumns_48 rfl rfl ?_
    refine aw_aload_n 1 dX0_addColumns_49 rfl rfl ?_
    refine aw_aload_n 2 dX0_addColumns_50 rfl rfl ?_
    refine aw_iload_n 3 dX0_addColumns_51 rfl rfl ?_
    refine aw_aload_n 2 dX0_addColumns_52 rfl rfl ?_
    refine aw_aload_n 1 dX0_addColumns_53 rfl rfl ?_
    refine aw_iconst (-1) dX0_addColumns_54 (by decide) ?_
    refine aw_callVO_I (c6_strikeX s_2 t2 (by omega) t1 (by omega) (-1)) (io_6 (by omega)) ci_6 (by decide) mk_6_strikeX w_1116 w_1117 w_1214 rfl rfl (Nat.le_of_ble_eq_true rfl) dX0_addColumns_55 (fun v_3 => ?_)
    refine aw_iadd dX0_addColumns_58 ?_
    refine aw_iload 4 dX0_addColumns_59 rfl ?_
    refine aw_iload 5 dX0_addColumns_61 rfl ?_
    refine aw_callVW_U (c0_addColumn s_2 t1 (by omega) t2 (by omega) (x3 + v_3) x4 x5) (io_0 (by decide)) ci_0 (by decide) mk_0_addColumn w_1217 w_32 w_1215 rfl rfl (Nat.le_of_ble_eq_true rfl) dX0_addColumns_63 (fun _ s_4 => ?_)
    exact aw_return rfl dX0_addColumns_66
  · refine aw_aload_n 0 dX0_addColumns_7 rfl rfl ?_
    refine aw_aload_n 1 dX0_addColumns_8 rfl rfl ?_
    refine aw_aload_n 2 dX0_addColumns_9 rfl rfl ?_
    refine aw_iload_n 3 dX0_addColumns_10 rfl rfl ?_
    refine aw_aload_n 2 dX0_addColumns_11 rfl rfl ?_
    refine aw_aload_n 1 dX0_addColumns_12 rfl rfl ?_
    refine aw_iconst 0 dX0_addColumns_13 (by decide) ?_
    refine aw_callVO_I (c6_strikeX σ t2 (by omega) t1 (by omega) 0) (io_6 (by omega)) ci_6 (by decide) mk_6_strikeX w_1116 w_1117 w_1214 rfl rfl (Nat.le_of_ble_eq_true rfl) dX0_addColumns_14 (fun v_5 => ?_)
    refine aw_iadd dX0_addColumns_17 ?_
    refine aw_iload 4 dX0_addColumns_18 rfl ?_
    refine aw_iconst 2 dX0_addColumns_20 (by decide) ?_
    refine aw_iload 5 dX0_addColumns_21 rfl ?_
    refine aw_imul dX0_addColumns_23 ?_
    refine aw_callVW_U (c0_addColumn σ t1 (by omega) t2 (by omega) (x3 + v_5) x4 (2 * x5)) (io_0 (by decide)) ci_0 (by decide) mk_0_addColumn w_1217 w_32 w_1215 rfl rfl (Nat.le_of_ble_eq_true rfl) dX0_addColumns_24 (fun _ s_6 => ?_)
    refine aw_goto 66 dX0_addColumns_27 (by decide) ?_
    exact aw_return rfl dX0_addColumns_66
def F0_search_L71 (t1 : Nat) (t2 : Nat) (x4 : Int32) (x5 : Int32) : Nat → Mem → Int32 → Option ((Unit) × Mem)
  | 0 => fun _ _ => none
  | n + 1 => fun σ x6 =>
    if x4 ≤ x6 then (some ((), σ)) else (bd (F0_addColumns σ t1 t2 (x6 - 20) x4 1) fun _ s_7 => (F0_search_L71 t1 t2 x4 x5 n) s_7 (x6 + 1))
set_option maxRecDepth 20000 in
theorem c0_search_L71 {l : Launch} {D : va_G} {ad : Nat → Nat → Nat → Nat} {cid : Nat → Nat → Nat → ClassId} {α : Type} {emb : α → Option Value} (t1 : Nat) (ht1 : t1 < 5) (t2 : Nat) (ht2 : t2 < 3) (x4 : Int32) (x5 : Int32) {G : Unit → Mem → Option (α × Mem)} (kx : ∀ r σ, AW (XC l D ad cid) M0_search 4 emb [(0, .ref (ad 0 0 0)), (1, .ref (ad 9 t1 0)), (2, .ref (ad 6 t2 0)), (3, .ref (ad 1 0 0)), (4, .int x4), (5, .int x5)] 98 [] σ (G r σ)) : ∀ (n : Nat) (σ : Mem) (x6 : Int32), AW (XC l D ad cid) M0_search 4 emb [(0, .ref (ad 0 0 0)), (1, .ref (ad 9 t1 0)), (2, .ref (ad 6 t2 0)), (3, .ref (ad 1 0 0)), (4, .int x4), (5, .int x5), (6, .int x6)] 71 [] σ (bd (F0_search_L71 t1 t2 x4 x5 n σ x6) G) := by
  intro n
  induction n with
  | zero => intros; exact aw_none
  | succ n ih =>
    intro σ x6
    refine aw_bdB ?_
    rw [F0_search_L71.eq_2]
    refine aw_iload 6 dX0_search_71 rfl ?_
    refine aw_iload 4 dX0_search_73 rfl ?_
    refine aw_icmp_ge 98 dX0_search_75 (by decide) ?_ ?_
    · refine aw_ls (ls' := [(0, .ref (ad 0 0 0)), (1, .ref (ad 9 t1 0)), (2, .ref (ad 6 t2 0)), (3, .ref (ad 1 0 0)), (4, .int x4), (5, .int x5)]) [0, 1, 2, 3, 4, 5] rfl ?_
      exact kx () σ
    · refine aw_aload_n 0 dX0_search_78 rfl rfl ?_
      refine aw_aload_n 1 dX0_search_79 rfl rfl ?_
      refine aw_aload_n 2 dX0_search_80 rfl rfl ?_
      refine aw_iload 6 dX0_search_81 rfl ?_
      refine aw_bipush 20 dX0_search_83 (by decide) ?_
      refine aw_isub dX0_search_85 ?_
      refine aw_iload 4 dX0_search_86 rfl ?_
      refine aw_iconst 1 dX0_search_88 (by decide) ?_
      refine aw_callVW_U (c0_addColumns σ t1 (by omega) t2 (by omega) (x6 - 20) x4 1) (io_0 (by decide)) ci_0 (by decide) mk_0_addColumns w_1212 w_31 w_1210 rfl rfl (Nat.le_of_ble_eq_true rfl) dX0_search_89 (fun _ s_7 => ?_)
      refine aw_iinc (ls' := [(0, .ref (ad 0 0 0)), (1, .ref (ad 9 t1 0)), (2, .ref (ad 6 t2 0)), (3, .ref (ad 1 0 0)), (4, .int x4), (5, .int x5), (6, .int (x6 + 1))]) (x6 + 1) 6 [1, 2, 3, 4, 5, 6, 0] dX0_search_92 rfl (by rfl) (by decide) rfl ?_
      refine aw_goto 71 dX0_search_95 (by decide) ?_
      exact ih s_7 (x6 + 1)
def F0_search_L132 (t1 : Nat) (t2 : Nat) (x4 : Int32) (x5 : Int32) (x6 : Int32) (x7 : Int32) : Nat → Mem → Int32 → Option ((Unit) × Mem)
  | 0 => fun _ _ => none
  | n + 1 => fun σ x8 =>
    if 41 ≤ x8 then (some ((), σ)) else ((ald 41 (gI σ 0 0 1) x8).bind fun v_12 => bd (F1_offer σ ((x6 * 41) + x8) (Int32.toInt64 v_12) (Int32.toInt64 x5)) fun _ s_13 => (F0_search_L132 t1 t2 x4 x5 x6 x7 n) s_13 (x8 + 1))
set_option maxRecDepth 20000 in
theorem c0_search_L132 {l : Launch} {D : va_G} {ad : Nat → Nat → Nat → Nat} {cid : Nat → Nat → Nat → ClassId} {α : Type} {emb : α → Option Value} (t1 : Nat) (ht1 : t1 < 5) (t2 : Nat) (ht2 : t2 < 3) (x4 : Int32) (x5 : Int32) (x6 : Int32) (x7 : Int32) {G : Unit → Mem → Option (α × Mem)} (kx : ∀ r σ, AW (XC l D ad cid) M0_search 4 emb [(0, .ref (ad 0 0 0)), (1, .ref (ad 9 t1 0)), (2, .ref (ad 6 t2 0)), (3, .ref (ad 1 0 0)), (4, .int x4), (5, .int x5), (6, .int x6), (7, .int x7)] 168 [] σ (G r σ)) : ∀ (n : Nat) (σ : Mem) (x8 : Int32), AW (XC l D ad cid) M0_search 4 emb [(0, .ref (ad 0 0 0)), (1, .ref (ad 9 t1 0)), (2, .ref (ad 6 t2 0)), (3, .ref (ad 1 0 0)), (4, .int x4), (5, .int x5), (6, .int x6), (7, .int x7), (8, .int x8)] 132 [] σ (bd (F0_search_L132 t1 t2 x4 x5 x6 x7 n σ x8) G) := by
  intro n
  induction n with
  | zero => intros; exact aw_none
  | succ n ih =>
    intro σ x8
    refine aw_bdB ?_
    rw [F0_search_L132.eq_2]
    refine aw_iload 8 dX0_search_132 rfl ?_
    refine aw_bipush 41 dX0_search_134 (by decide) ?_
    refine aw_icmp_ge 168 dX0_search_136 (by decide) ?_ ?_
    · refine aw_ls (ls' := [(0, .ref (ad 0 0 0)), (1, .ref (ad 9 t1 0)), (2, .ref (ad 6 t2 0)), (3, .ref (ad 1 0 0)), (4, .int x4), (5, .int x5), (6, .int x6), (7, .int x7)]) [0, 1, 2, 3, 4, 5, 6, 7] rfl ?_
      exact kx () σ
    · refine aw_aload_n 3 dX0_search_139 rfl rfl ?_
      refine aw_iload 6 dX0_search_140 rfl ?_
      refine aw_bipush 41 dX0_search_142 (by decide) ?_
      refine aw_imul dX0_search_144 ?_
      refine aw_iload 8 dX0_search_145 rfl ?_
      refine aw_iadd dX0_search_147 ?_
      refine aw_aload_n 0 dX0_search_148 rfl rfl ?_
      refine aw_getf (fg_0_0 (by decide)) ci_0 (by decide) w_635 dX0_search_149 ?_
      refine aw_iload 8 dX0_search_152 rfl ?_
      refine aw_iaload (ar_0_1 (by decide)) dX0_search_154 (fun v_12 => ?_)
      refine aw_i2l dX0_search_155 ?_
      refine aw_iload 5 dX0_search_156 rfl ?_
      refine aw_i2l dX0_search_158 ?_
      refine aw_callVW_U (c1_offer σ ((x6 * 41) + x8) (Int32.toInt64 v_12) (Int32.toInt64 x5)) (io_1 (by decide)) ci_1 (by decide) mk_1_offer w_1207 w_1208 w_1206 rfl rfl (Nat.le_of_ble_eq_true rfl) dX0_search_159 (fun _ s_13 => ?_)
      refine aw_iinc (ls' := [(0, .ref (ad 0 0 0)), (1, .ref (ad 9 t1 0)), (2, .ref (ad 6 t2 0)), (3, .ref (ad 1 0 0)), (4, .int x4), (5, .int x5), (6, .int x6), (7, .int x7), (8, .int (x8 + 1))]) (x8 + 1) 8 [1, 2, 3, 4, 5, 6, 7, 8, 0] dX0_search_162 rfl (by rfl) (by decide) rfl ?_
      refine aw_goto 132 dX0_search_165 (by decide) ?_
      exact ih s_13 (x8 + 1)
def F0_search_L101 (t1 : Nat) (t2 : Nat) (x4 : Int32) (x5 : Int32) : Nat → Mem → Int32 → Option ((Unit) × Mem)
  | 0 => fun _ _ => none
  | n + 1 => fun σ x6 =>
    if 41 ≤ x6 then (some ((), σ)) else (bnd (x6 - 20) fun v_10 => bd (F0_addColumns σ t1 t2 (v_10 + x4) x4 1) fun _ s_11 => bd (F0_search_L132 t1 t2 x4 x5 x6 v_10 fuelK s_11 0) fun r_14 s_15 => bd (F0_addColumns s_15 t1 t2 (v_10 - x4) x4 (-1)) fun _ s_16 => (F0_search_L101 t1 t2 x4 x5 n) s_16 (x6 + 1))
set_option maxRecDepth 20000 in
theorem c0_search_L101 {l : Launch} {D : va_G} {ad : Nat → Nat → Nat → Nat} {cid : Nat → Nat → Nat → ClassId} {α : Type} {emb : α → Option Value} (t1 : Nat) (ht1 : t1 < 5) (t2 : Nat) (ht2 : t2 < 3) (x4 : Int32) (x5 : Int32) {G : Unit → Mem → Option (α × Mem)} (kx : ∀ r σ, AW (XC l D ad cid) M0_search 4 emb [] 188 [] σ (G r σ)) : ∀ (n : Nat) (σ : Mem) (x6 : Int32), AW (XC l D ad cid) M0_search 4 emb [(0, .ref (ad 0 0 0)), (1, .ref (ad 9 t1 0)), (2, .ref (ad 6 t2 0)), (3, .ref (ad 1 0 0)), (4, .int x4), (5, .int x5), (6, .int x6)] 101 [] σ (bd (F0_search_L101 t1 t2 x4 x5 n σ x6) G) := by
  intro n
  induction n with
  | zero => intros; exact aw_none
  | succ n ih =>
    intro σ x6
    refine aw_bdB ?_
    rw [F0_search_L101.eq_2]
    refine aw_iload 6 dX0_search_101 rfl ?_
    refine aw_bipush 41 dX0_search_103 (by decide) ?_
    refine aw_icmp_ge 188 dX0_search_105 (by decide) ?_ ?_
    · refine aw_ls (ls' := []) [] rfl ?_
      exact kx () σ
    · refine aw_iload 6 dX0_search_108 rfl ?_
      refine aw_bipush 20 dX0_search_110 (by decide) ?_
      refine aw_isub dX0_search_112 ?_
      refine aw_bnd_int (fun v_10 => ?_)
      refine aw_istore (ls' := [(0, .ref (ad 0 0 0)), (1, .ref (ad 9 t1 0)), (2, .ref (ad 6 t2 0)), (3, .ref (ad 1 0 0)), (4, .int x4), (5, .int x5), (6, .int x6), (7, .int v_10)]) [1, 2, 3, 4, 5, 6, 7, 0] dX0_search_113 (by decide) rfl ?_
      refine aw_aload_n 0 dX0_search_115 rfl rfl ?_
      refine aw_aload_n 1 dX0_search_116 rfl rfl ?_
      refine aw_aload_n 2 dX0_search_117 rfl rfl ?_
      refine aw_iload 7 dX0_search_118 rfl ?_
      refine aw_iload 4 dX0_search_120 rfl ?_
      refine aw_iadd dX0_search_122 ?_
      refine aw_iload 4 dX0_search_123 rfl ?_
      refine aw_iconst 1 dX0_search_125 (by decide) ?_
      refine aw_callVW_U (c0_addColumns σ t1 (by omega) t2 (by omega) (v_10 + x4) x4 1) (io_0 (by decide)) ci_0 (by decide) mk_0_addColumns w_1212 w_31 w_1210 rfl rfl (Nat.le_of_ble_eq_true rfl) dX0_search_126 (fun _ s_11 => ?_)
      refine aw_iconst 0 dX0_search_129 (by decide) ?_
      refine aw_istore (ls' := [(0, .ref (ad 0 0 0)), (1, .ref (ad 9 t1 0)), (2, .ref (ad 6 t2 0)), (3, .ref (ad 1 0 0)), (4, .int x4), (5, .int x5), (6, .int x6), (7, .int v_10), (8, .int 0)]) [1, 2, 3, 4, 5, 6, 7, 8, 0] dX0_search_130 (by decide) rfl ?_
      refine aw_assocW ?_
      refine c0_search_L132 t1 (by omega) t2 (by omega) x4 x5 x6 v_10 (fun r_14 s_15 => ?_) fuelK s_11 0
      refine aw_aload_n 0 dX0_search_168 rfl rfl ?_
      refine aw_aload_n 1 dX0_search_169 rfl rfl ?_
      refine aw_aload_n 2 dX0_search_170 rfl rfl ?_
      refine aw_iload 7 dX0_search_171 rfl ?_
      refine aw_iload 4 dX0_search_173 rfl ?_
      refine aw_isub dX0_search_175 ?_
      refine aw_iload 4 dX0_search_176 rfl ?_
      refine aw_iconst (-1) dX0_search_178 (by decide) ?_
      refine aw_callVW_U (c0_addColumns s_15 t1 (by omega) t2 (by omega) (v_10 - x4) x4 (-1)) (io_0 (by decide)) ci_0 (by decide) mk_0_addColumns w_1212 w_31 w_1210 rfl rfl (Nat.le_of_ble_eq_true rfl) dX0_search_179 (fun _ s_16 => ?_)
      refine aw_iinc (ls' := [(0, .ref (ad 0 0 0)), (1, .ref (ad 9 t1 0)), (2, .ref (ad 6 t2 0)), (3, .ref (ad 1 0 0)), (4, .int x4), (5, .int x5), (6, .int (x6 + 1))]) (x6 + 1) 6 [1, 2, 3, 4, 5, 6, 0] dX0_search_182 rfl (by rfl) (by decide) rfl ?_
      refine aw_goto 101 dX0_search_185 (by decide) ?_
      exact ih s_16 (x6 + 1)
def F0_search (σ : Mem) (t1 : Nat) (t2 : Nat) : Option (Unit × Mem) :=
  bd (F20_fillI σ 0 0 1 41 0) fun _ s_1 => bd (F6_reckon s_1 t2 t1) fun _ s_2 => (F9_shakeOn s_2 t1 (gI s_2 6 t2 0 0) (gI s_2 6 t2 0 3)).bind fun v_3 => bnd (iMin 6 v_3) fun v_4 => bnd ((2 * ((2 * v_4) + 1)) * ((2 * v_4) + 1)) fun v_5 => if (gI s_2 6 t2 0 8) = 0 then (bnd (-v_4) fun v_6 => bd (F0_search_L71 t1 t2 v_4 v_5 fuelK s_2 v_6) fun r_8 s_9 => bd (F0_search_L101 t1 t2 v_4 v_5 fuelK s_9 0) fun r_17 s_18 => some ((), s_18)) else (bd (F1_offer s_2 0 0 (Int32.toInt64 v_5)) fun _ s_19 => some ((), s_19))
set_option maxRecDepth 20000 in
theorem c0_search {l : Launch} {D : va_G} {ad : Nat → Nat → Nat → Nat} {cid : Nat → Nat → Nat → ClassId} (σ : Mem) (t1 : Nat) (ht1 : t1 < 5) (t2 : Nat) (ht2 : t2 < 3) : AMF (XC l D ad cid) M0_search 4 eU [.ref (ad 0 0 0), .ref (ad 9 t1 0), .ref (ad 6 t2 0), .ref (ad 1 0 0)] σ (F0_search σ t1 t2) := by
  refine AM.ofW (by decide +kernel) (Nat.le_of_ble_eq_true rfl) (ls := [(0, .ref (ad 0 0 0)), (1, .ref (ad 9 t1 0)), (2, .ref (ad 6 t2 0)), (3, .ref (ad 1 0 0))]) rfl ?_
  refine aw_entry ?_
  unfold F0_search
  refine aw_aload_n 0 dX0_search_0 rfl rfl ?_
  refine aw_getf (fg_0_0 (by decide)) ci_0 (by decide) w_635 dX0_search_1 ?_
  refine aw_iconst 0 dX0_search_4 (by decide) ?_
  refine aw_callSW_U (c20_fillI σ 0 0 1 41 (ar_0_1 (by decide)) 0) (by decide) mk_20_fillI w_967 w_1202 rfl rfl (Nat.le_of_ble_eq_true rfl) dX0_search_5 (fun _ s_1 => ?_)
  refine aw_aload_n 2 dX0_search_8 rfl rfl ?_
  refine aw_aload_n 1 dX0_search_9 rfl rfl ?_
  refine aw_callVW_U (c6_reckon s_1 t2 (by omega) t1 (by omega)) (io_6 (by omega)) ci_6 (by decide) mk_6_reckon w_1083 w_1084 w_1203 rfl rfl (Nat.le_of_ble_eq_true rfl) dX0_search_10 (fun _ s_2 => ?_)
  refine aw_bipush 6 dX0_search_13 (by decide) ?_
  refine aw_aload_n 1 dX0_search_15 rfl rfl ?_
  refine aw_aload_n 2 dX0_search_16 rfl rfl ?_
  refine aw_getf (fg_6_0 (by omega)) ci_6 (by decide) w_537 dX0_search_17 ?_
  refine aw_aload_n 2 dX0_search_20 rfl rfl ?_
  refine aw_getf (fg_6_3 (by omega)) ci_6 (by decide) w_550 dX0_search_21 ?_
  refine aw_callVO_I (c9_shakeOn s_2 t1 (by omega) (gI s_2 6 t2 0 0) (gI s_2 6 t2 0 3)) (io_9 (by omega)) ci_9 (by decide) mk_9_shakeOn w_1145 w_1146 w_1204 rfl rfl (Nat.le_of_ble_eq_true rfl) dX0_search_24 (fun v_3 => ?_)
  refine aw_min w_1205 w_864 w_159 w_865 (Nat.le_of_ble_eq_true rfl) dX0_search_27 ?_
  refine aw_bnd_int (fun v_4 => ?_)
  refine aw_istore (ls' := [(0, .ref (ad 0 0 0)), (1, .ref (ad 9 t1 0)), (2, .ref (ad 6 t2 0)), (3, .ref (ad 1 0 0)), (4, .int v_4)]) [1, 2, 3, 4, 0] dX0_search_30 (by decide) rfl ?_
  refine aw_iconst 2 dX0_search_32 (by decide) ?_
  refine aw_iconst 2 dX0_search_33 (by decide) ?_
  refine aw_iload 4 dX0_search_34 rfl ?_
  refine aw_imul dX0_search_36 ?_
  refine aw_iconst 1 dX0_search_37 (by decide) ?_
  refine aw_iadd dX0_search_38 ?_
  refine aw_imul dX0_search_39 ?_
  refine aw_iconst 2 dX0_search_40 (by decide) ?_
  refine aw_iload 4 dX0_search_41 rfl ?_
  refine aw_imul dX0_search_43 ?_
  refine aw_iconst 1 dX0_search_44 (by decide) ?_
  refine aw_iadd dX0_search_45 ?_
  refine aw_imul dX0_search_46 ?_
  refine aw_bnd_int (fun v_5 => ?_)
  refine aw_istore (ls' := [(0, .ref (ad 0 0 0)), (1, .ref (ad 9 t1 0)), (2, .ref (ad 6 t2 0)), (3, .ref (ad 1 0 0)), (4, .int v_4), (5, .int v_5)]) [1, 2, 3, 4, 5, 0] dX0_search_47 (by decide) rfl ?_
  refine aw_aload_n 2 dX0_search_49 rfl rfl ?_
  refine aw_getf (fg_6_8 (by omega)) ci_6 (by decide) w_566 dX0_search_50 ?_
  refine aw_if_eq 66 dX0_search_53 (by decide) ?_ ?_
  · refine aw_iload 4 dX0_search_66 rfl ?_
    refine aw_ineg dX0_search_68 ?_
    refine aw_bnd_int (fun v_6 => ?_)
    refine aw_istore (ls' := [(0, .ref (ad 0 0 0)), (1, .ref (ad 9 t1 0)), (2, .ref (ad 6 t2 0)), (3, .ref (ad 1 0 0)), (4, .int v_4), (5, .int v_5), (6, .int v_6)]) [1, 2, 3, 4, 5, 6, 0] dX0_search_69 (by decide) rfl ?_
    refine aw_assocW ?_
    refine c0_search_L71 t1 (by omega) t2 (by omega) v_4 v_5 (fun r_8 s_9 => ?_) fuelK s_2 v_6
    refine aw_iconst 0 dX0_search_98 (by decide) ?_
    refine aw_istore (ls' := [(0, .ref (ad 0 0 0)), (1, .ref (ad 9 t1 0)), (2, .ref (ad 6 t2 0)), (3, .ref (ad 1 0 0)), (4, .int v_4), (5, .int v_5), (6, .int 0)]) [1, 2, 3, 4, 5, 6, 0] dX0_search_99 (by decide) rfl ?_
    refine aw_assocW ?_
    refine c0_search_L101 t1 (by omega) t2 (by omega) v_4 v_5 (fun r_17 s_18 => ?_) fuelK s_9 0
    exact aw_return rfl dX0_search_188
  · refine aw_aload_n 3 dX0_search_56 rfl rfl ?_
    refine aw_iconst 0 dX0_search_57 (by decide) ?_
    refine aw_lconst 0 dX0_search_58 (by decide) ?_
    refine aw_iload 5 dX0_search_59 rfl ?_
    refine aw_i2l dX0_search_61 ?_
    refine aw_callVW_U (c1_offer s_2 0 0 (Int32.toInt64 v_5)) (io_1 (by decide)) ci_1 (by decide) mk_1_offer w_1207 w_1208 w_1206 rfl rfl (Nat.le_of_ble_eq_true rfl) dX0_search_62 (fun _ s_19 => ?_)
    exact aw_return rfl dX0_search_65
def F11_bestAim (σ : Mem) (x1 : Int32) (x2 : Int32) (x3 : Int32) (x4 : Int32) (x5 : Int32) : Option (Int32 × Mem) :=
  (F11_wrongShot σ x1 x2 x3 x4 0 0).bind fun v_1 => if v_1 = 0 then (if (F11_within x5 0 1) = true then (bd (F11_takeShot σ x1 x2 x3 x4 0 0) fun _ s_2 => bd (F1_begin s_2) fun _ s_3 => gd 5 (gR s_3 11 0 0 5) fun t_4 => bd (F0_search s_3 t_4 0) fun _ s_5 => bd (F11_tell s_5 (gL s_5 1 0 0 2) (gL s_5 1 0 0 3)) fun _ s_6 => if x5 = 0 then (bnd ((gI s_6 1 0 0 1) / 41) fun v_10 => bd (F11_answer s_6 (v_10 - 20)) fun v_11 s_12 => some (v_11, s_12)) else (bnd (iRem (gI s_6 1 0 0 1) 41) fun v_7 => bd (F11_answer s_6 (v_7 - 20)) fun v_8 s_9 => some (v_8, s_9))) else (bd (F11_refuse σ 5) fun v_13 s_14 => some (v_13, s_14))) else (bd (F11_refuse σ v_1) fun v_15 s_16 => some (v_15, s_16))
set_option maxRecDepth 20000 in
theorem c11_bestAim {l : Launch} {D : va_G} {ad : Nat → Nat → Nat → Nat} {cid : Nat → Nat → Nat → ClassId} (σ : Mem) (x1 : Int32) (x2 : Int32) (x3 : Int32) (x4 : Int32) (x5 : Int32) : AMF (XC l D ad cid) M11_bestAim 5 eI [.ref (ad 11 0 0), .int x1, .int x2, .int x3, .int x4, .int x5] σ (F11_bestAim σ x1 x2 x3 x4 x5) := by
  refine AM.ofW (by decide +kernel) (Nat.le_of_ble_eq_true rfl) (ls := [(0, .ref (ad 11 0 0)), (1, .int x1), (2, .int x2), (3, .int x3), (4, .int x4), (5, .int x5)]) rfl ?_
  refine aw_entry ?_
  unfold F11_bestAim
  refine aw_aload_n 0 dX11_bestAim_0 rfl rfl ?_
  refine aw_iload_n 1 dX11_bestAim_1 rfl rfl ?_
  refine aw_iload_n 2 dX11_bestAim_2 rfl rfl ?_
  refine aw_iload_n 3 dX11_bestAim_3 rfl rfl ?_
  refine aw_iload 4 dX11_bestAim_4 rfl ?_
  refine aw_iconst 0 dX11_bestAim_6 (by decide) ?_
  refine aw_iconst 0 dX11_bestAim_7 (by decide) ?_
  refine aw_callVO_I (c11_wrongShot σ x1 x2 x3 x4 0 0) (io_11 (by decide)) ci_11 (by decide) mk_11_wrongShot w_1113 w_28 w_1111 rfl rfl (Nat.le_of_ble_eq_true rfl) dX11_bestAim_8 (fun v_1 => ?_)
  refine aw_istore (ls' := [(0, .ref (ad 11 0 0)), (1, .int x1), (2, .int x2), (3, .int x3), (4, .int x4), (5, .int x5), (6, .int v_1)]) [1, 2, 3, 4, 5, 6, 0] dX11_bestAim_11 (by decide) rfl ?_
  refine aw_iload 6 dX11_bestAim_13 rfl ?_
  refine aw_if_eq 25 dX11_bestAim_15 (by decide) ?_ ?_
  · refine aw_iload 5 dX11_bestAim_25 rfl ?_
    refine aw_iconst 0 dX11_bestAim_27 (by decide) ?_
    refine aw_iconst 1 dX11_bestAim_28 (by decide) ?_
    refine aw_callST_B (c11_within σ x5 0 1) (by decide) mk_11_within w_798 w_797 rfl rfl (Nat.le_of_ble_eq_true rfl) dX11_bestAim_29 ?_
    refine aw_bif_ne 41 dX11_bestAim_32 (by decide) ?_ ?_
    · refine aw_aload_n 0 dX11_bestAim_41 rfl rfl ?_
      refine aw_iload_n 1 dX11_bestAim_42 rfl rfl ?_
      refine aw_iload_n 2 dX11_bestAim_43 rfl rfl ?_
      refine aw_iload_n 3 dX11_bestAim_44 rfl rfl ?_
      refine aw_iload 4 dX11_bestAim_45 rfl ?_
      refine aw_iconst 0 dX11_bestAim_47 (by decide) ?_
      refine aw_iconst 0 dX11_bestAim_48 (by decide) ?_
      refine aw_callVW_U (c11_takeShot σ x1 x2 x3 x4 0 0) (io_11 (by decide)) ci_11 (by decide) mk_11_takeShot w_1080 w_25 w_1078 rfl rfl (Nat.le_of_ble_eq_true rfl) dX11_bestAim_49 (fun _ s_2 => ?_)
      refine aw_aload_n 0 dX11_bestAim_52 rfl rfl ?_
      refine aw_getf (fg_11_17 (by decide)) ci_11 (by decide) w_734 dX11_bestAim_53 ?_
      refine aw_callVW_U (c1_begin s_2 ) (io_1 (by decide)) ci_1 (by decide) mk_1_begin w_1195 w_1196 w_1194 rfl rfl (Nat.le_of_ble_eq_true rfl) dX11_bestAim_56 (fun _ s_3 => ?_)
      refine aw_aload_n 0 dX11_bestAim_59 rfl rfl ?_
      refine aw_getf (fg_11_16 (by decide)) ci_11 (by decide) w_733 dX11_bestAim_60 ?_
      refine aw_aload_n 0 dX11_bestAim_63 rfl rfl ?_
      refine aw_getf (fg_11_5 (by decide)) ci_11 (by decide) w_722 dX11_bestAim_64 ?_
      refine aw_gd (n := 5) (fun t_4 ht_4 => ?_)
      refine aw_aload_n 0 dX11_bestAim_67 rfl rfl ?_
      refine aw_getf (fg_11_13 (by decide)) ci_11 (by decide) w_730 dX11_bestAim_68 ?_
      refine aw_aload_n 0 dX11_bestAim_71 rfl rfl ?_
      refine aw_getf (fg_11_17 (by decide)) ci_11 (by decide) w_734 dX11_bestAim_72 ?_
      refine aw_callVW_U (c0_search s_3 t_4 (by omega) 0 (by decide)) (io_0 (by decide)) ci_0 (by decide) mk_0_search w_1199 w_1200 w_1198 rfl rfl (Nat.le_of_ble_eq_true rfl) dX11_bestAim_75 (fun _ s_5 => ?_)
      refine aw_aload_n 0 dX11_bestAim_78 rfl rfl ?_
      refine aw_aload_n 0 dX11_bestAim_79 rfl rfl ?_
      refine aw_getf (fg_11_17 (by decide)) ci_11 (by decide) w_734 dX11_bestAim_80 ?_
      refine aw_getf (fg_1_2 (by decide)) ci_1 (by decide) w_653 dX11_bestAim_83 ?_
      refine aw_aload_n 0 dX11_bestAim_86 rfl rfl ?_
      refine aw_getf (fg_11_17 (by decide)) ci_11 (by decide) w_734 dX11_bestAim_87 ?_
      refine aw_getf (fg_1_3 (by decide)) ci_1 (by decide) w_655 dX11_bestAim_90 ?_
      refine aw_callVW_U (c11_tell s_5 (gL s_5 1 0 0 2) (gL s_5 1 0 0 3)) (io_11 (by decide)) ci_11 (by decide) mk_11_tell w_1174 w_30 w_1172 rfl rfl (Nat.le_of_ble_eq_true rfl) dX11_bestAim_93 (fun _ s_6 => ?_)
      refine aw_iload 5 dX11_bestAim_96 rfl ?_
      refine aw_if_ne 114 dX11_bestAim_98 (by decide) ?_ ?_
      · refine aw_aload_n 0 dX11_bestAim_114 rfl rfl ?_
        refine aw_getf (fg_11_17 (by decide)) ci_11 (by decide) w_734 dX11_bestAim_115 ?_
        refine aw_getf (fg_1_1 (by decide)) ci_1 (by decide) w_651 dX11_bestAim_118 ?_
        refine aw_bipush 41 dX11_bestAim_121 (by decide) ?_
        refine aw_irem_c dX11_bestAim_123 (by decide) ?_
        refine aw_bnd_int (fun v_7 => ?_)
        refine aw_istore (ls' := [(0, .ref (ad 11 0 0)), (7, .int v_7)]) [1, 0] dX11_bestAim_124 (by decide) rfl ?_
        refine aw_aload_n 0 dX11_bestAim_126 rfl rfl ?_
        refine aw_iload 1 dX11_bestAim_127 rfl ?_
        refine aw_bipush 20 dX11_bestAim_129 (by decide) ?_
        refine aw_isub dX11_bestAim_131 ?_
        refine aw_callVW_I (c11_answer s_6 (v_7 - 20)) (io_11 (by decide)) ci_11 (by decide) mk_11_answer w_975 w_15 w_973 rfl rfl (Nat.le_of_ble_eq_true rfl) dX11_bestAim_132 (fun v_8 s_9 => ?_)
        exact aw_ireturn rfl dX11_bestAim_135
      · refine aw_aload_n 0 dX11_bestAim_101 rfl rfl ?_
        refine aw_getf (fg_11_17 (by decide)) ci_11 (by decide) w_734 dX11_bestAim_102 ?_
        refine aw_getf (fg_1_1 (by decide)) ci_1 (by decide) w_651 dX11_bestAim_105 ?_
        refine aw_bipush 41 dX11_bestAim_108 (by decide) ?_
        refine aw_idiv_c dX11_bestAim_110 (by decide) ?_
        refine aw_goto 124 dX11_bestAim_111 (by decide) ?_
        refine aw_bnd_int (fun v_10 => ?_)
        refine aw_istore (ls' := [(0, .ref (ad 11 0 0)), (7, .int v_10)]) [1, 0] dX11_bestAim_124 (by decide) rfl ?_
        refine aw_aload_n 0 dX11_bestAim_126 rfl rfl ?_
        refine aw_iload 1 dX11_bestAim_127 rfl ?_
        refine aw_bipush 20 dX11_bestAim_129 (by decide) ?_
        refine aw_isub dX11_bestAim_131 ?_
        refine aw_callVW_I (c11_answer s_6 (v_10 - 20)) (io_11 (by decide)) ci_11 (by decide) mk_11_answer w_975 w_15 w_973 rfl rfl (Nat.le_of_ble_eq_true rfl) dX11_bestAim_132 (fun v_11 s_12 => ?_)
        exact aw_ireturn rfl dX11_bestAim_135
    · refine aw_aload_n 0 dX11_bestAim_35 rfl rfl ?_
      refine aw_iconst 5 dX11_bestAim_36 (by decide) ?_
      refine aw_callVW_I (c11_refuse σ 5) (io_11 (by decide)) ci_11 (by decide) mk_11_refuse w_838 w_3 w_836 rfl rfl (Nat.le_of_ble_eq_true rfl) dX11_bestAim_37 (fun v_13 s_14 => ?_)
      exact aw_ireturn rfl dX11_bestAim_40
  · refine aw_aload_n 0 dX11_bestAim_18 rfl rfl ?_
    refine aw_iload 6 dX11_bestAim_19 rfl ?_
    refine aw_callVW_I (c11_refuse σ v_1) (io_11 (by decide)) ci_11 (by decide) mk_11_refuse w_838 w_3 w_836 rfl rfl (Nat.le_of_ble_eq_true rfl) dX11_bestAim_21 (fun v_15 s_16 => ?_)
    exact aw_ireturn rfl dX11_bestAim_24
def F11_offerMean (σ : Mem) (x1 : Int32) : Option (Unit × Mem) :=
  gd 5 (gR σ 11 0 0 5) fun t_1 => bd (F2_reckon σ 0 t_1 0) fun _ s_2 => (F2_sum s_2 0).bind fun v_3 => bd (F1_offer s_2 x1 v_3 (Int32.toInt64 (gI s_2 2 0 0 1))) fun _ s_4 => some ((), s_4)
set_option maxRecDepth 20000 in
theorem c11_offerMean {l : Launch} {D : va_G} {ad : Nat → Nat → Nat → Nat} {cid : Nat → Nat → Nat → ClassId} (σ : Mem) (x1 : Int32) : AMF (XC l D ad cid) M11_offerMean 5 eU [.ref (ad 11 0 0), .int x1] σ (F11_offerMean σ x1) := by
  refine AM.ofW (by decide +kernel) (Nat.le_of_ble_eq_true rfl) (ls := [(0, .ref (ad 11 0 0)), (1, .int x1)]) rfl ?_
  refine aw_entry ?_
  unfold F11_offerMean
  refine aw_aload_n 0 dX11_offerMean_0 rfl rfl ?_
  refine aw_getf (fg_11_14 (by decide)) ci_11 (by decide) w_731 dX11_offerMean_1 ?_
  refine aw_aload_n 0 dX11_offerMean_4 rfl rfl ?_
  refine aw_getf (fg_11_5 (by decide)) ci_11 (by decide) w_722 dX11_offerMean_5 ?_
  refine aw_gd (n := 5) (fun t_1 ht_1 => ?_)
  refine aw_aload_n 0 dX11_offerMean_8 rfl rfl ?_
  refine aw_getf (fg_11_13 (by decide)) ci_11 (by decide) w_730 dX11_offerMean_9 ?_
  refine aw_callVW_U (c2_reckon σ 0 (by decide) t_1 (by omega) 0 (by decide)) (io_2 (by decide)) ci_2 (by decide) mk_2_reckon w_1154 w_1155 w_1153 rfl rfl (Nat.le_of_ble_eq_true rfl) dX11_offerMean_12 (fun _ s_2 => ?_)
  refine aw_aload_n 0 dX11_offerMean_15 rfl rfl ?_
  refine aw_getf (fg_11_17 (by decide)) ci_11 (by decide) w_734 dX11_offerMean_16 ?_
  refine aw_iload_n 1 dX11_offerMean_19 rfl rfl ?_
  refine aw_aload_n 0 dX11_offerMean_20 rfl rfl ?_
  refine aw_getf (fg_11_14 (by decide)) ci_11 (by decide) w_731 dX11_offerMean_21 ?_
  refine aw_callVO_L (c2_sum s_2 0 (by decide)) (io_2 (by decide)) ci_2 (by decide) mk_2_sum w_1187 w_1188 w_1186 rfl rfl (Nat.le_of_ble_eq_true rfl) dX11_offerMean_24 (fun v_3 => ?_)
  refine aw_aload_n 0 dX11_offerMean_27 rfl rfl ?_
  refine aw_getf (fg_11_14 (by decide)) ci_11 (by decide) w_731 dX11_offerMean_28 ?_
  refine aw_getf (fg_2_1 (by decide)) ci_2 (by decide) w_619 dX11_offerMean_31 ?_
  refine aw_i2l dX11_offerMean_34 ?_
  refine aw_callVW_U (c1_offer s_2 x1 v_3 (Int32.toInt64 (gI s_2 2 0 0 1))) (io_1 (by decide)) ci_1 (by decide) mk_1_offer w_1207 w_1208 w_1229 rfl rfl (Nat.le_of_ble_eq_true rfl) dX11_offerMean_35 (fun _ s_4 => ?_)
  exact aw_return rfl dX11_offerMean_38
def F11_answerBest (σ : Mem)  : Option (Int32 × Mem) :=
  bd (F11_tell σ (gL σ 1 0 0 2) (gL σ 1 0 0 3)) fun _ s_1 => bd (F11_answer s_1 (gI s_1 1 0 0 1)) fun v_2 s_3 => some (v_2, s_3)
set_option maxRecDepth 20000 in
theorem c11_answerBest {l : Launch} {D : va_G} {ad : Nat → Nat → Nat → Nat} {cid : Nat → Nat → Nat → ClassId} (σ : Mem)  : AMF (XC l D ad cid) M11_answerBest 2 eI [.ref (ad 11 0 0)] σ (F11_answerBest σ) := by
  refine AM.ofW (by decide +kernel) (Nat.le_of_ble_eq_true rfl) (ls := [(0, .ref (ad 11 0 0))]) rfl ?_
  refine aw_entry ?_
  unfold F11_answerBest
  refine aw_aload_n 0 dX11_answerBest_0 rfl rfl ?_
  refine aw_aload_n 0 dX11_answerBest_1 rfl rfl ?_
  refine aw_getf (fg_11_17 (by decide)) ci_11 (by decide) w_734 dX11_answerBest_2 ?_
  refine aw_getf (fg_1_2 (by decide)) ci_1 (by decide) w_653 dX11_answerBest_5 ?_
  refine aw_aload_n 0 dX11_answerBest_8 rfl rfl ?_
  refine aw_getf (fg_11_17 (by decide)) ci_11 (by decide) w_734 dX11_answerBest_9 ?_
  refine aw_getf (fg_1_3 (by decide)) ci_1 (by decide) w_655 dX11_answerBest_12 ?_
  refine aw_callVW_U (c11_tell σ (gL σ 1 0 0 2) (gL σ 1 0 0 3)) (io_11 (by decide)) ci_11 (by decide) mk_11_tell w_1174 w_30 w_1172 rfl rfl (Nat.le_of_ble_eq_true rfl) dX11_answerBest_15 (fun _ s_1 => ?_)
  refine aw_aload_n 0 dX11_answerBest_18 rfl rfl ?_
  refine aw_aload_n 0 dX11_answerBest_19 rfl rfl ?_
  refine aw_getf (fg_11_17 (by decide)) ci_11 (by decide) w_734 dX11_answerBest_20 ?_
  refine aw_getf (fg_1_1 (by decide)) ci_1 (by decide) w_651 dX11_answerBest_23 ?_
  refine aw_callVW_I (c11_answer s_1 (gI s_1 1 0 0 1)) (io_11 (by decide)) ci_11 (by decide) mk_11_answer w_975 w_15 w_973 rfl rfl (Nat.le_of_ble_eq_true rfl) dX11_answerBest_26 (fun v_2 s_3 => ?_)
  exact aw_ireturn rfl dX11_answerBest_29
def F11_bestPuff_L36 (x1 : Int32) (x2 : Int32) (x3 : Int32) (x4 : Int32) (x5 : Int32) : Nat → Mem → Int32 → Option ((Unit) × Mem)
  | 0 => fun _ _ => none
  | n + 1 => fun σ x7 =>
    gd 5 (gR σ 11 0 0 5) fun t_3 => (ald 6 (gI σ 9 t_3 9) x1).bind fun v_4 => if v_4 < x7 then (some ((), σ)) else (bd (F11_takeShot σ x1 x2 x7 x3 x4 x5) fun _ s_5 => bd (F11_offerMean s_5 x7) fun _ s_6 => (F11_bestPuff_L36 x1 x2 x3 x4 x5 n) s_6 (x7 + 1))
set_option maxRecDepth 20000 in
theorem c11_bestPuff_L36 {l : Launch} {D : va_G} {ad : Nat → Nat → Nat → Nat} {cid : Nat → Nat → Nat → ClassId} {α : Type} {emb : α → Option Value} (x1 : Int32) (x2 : Int32) (x3 : Int32) (x4 : Int32) (x5 : Int32) {G : Unit → Mem → Option (α × Mem)} (kx : ∀ r σ, AW (XC l D ad cid) M11_bestPuff 6 emb [(0, .ref (ad 11 0 0))] 75 [] σ (G r σ)) : ∀ (n : Nat) (σ : Mem) (x7 : Int32), AW (XC l D ad cid) M11_bestPuff 6 emb [(0, .ref (ad 11 0 0)), (1, .int x1), (2, .int x2), (3, .int x3), (4, .int x4), (5, .int x5), (7, .int x7)] 36 [] σ (bd (F11_bestPuff_L36 x1 x2 x3 x4 x5 n σ x7) G) := by
  intro n
  induction n with
  | zero => intros; exact aw_none
  | succ n ih =>
    intro σ x7
    refine aw_bdB ?_
    rw [F11_bestPuff_L36.eq_2]
    refine aw_iload 6 dX11_bestPuff_36 rfl ?_
    refine aw_aload_n 0 dX11_bestPuff_38 rfl rfl ?_
    refine aw_getf (fg_11_5 (by decide)) ci_11 (by decide) w_722 dX11_bestPuff_39 ?_
    refine aw_gd (n := 5) (fun t_3 ht_3 => ?_)
    refine aw_getf (fg_9_15 (by omega)) ci_9 (by decide) w_357 dX11_bestPuff_42 ?_
    refine aw_iload_n 1 dX11_bestPuff_45 rfl rfl ?_
    refine aw_iaload (ar_9_9 (by omega)) dX11_bestPuff_46 (fun v_4 => ?_)
    refine aw_icmp_gt 75 dX11_bestPuff_47 (by decide) ?_ ?_
    · refine aw_ls (ls' := [(0, .ref (ad 11 0 0))]) [0] rfl ?_
      exact kx () σ
    · refine aw_aload_n 0 dX11_bestPuff_50 rfl rfl ?_
      refine aw_iload_n 1 dX11_bestPuff_51 rfl rfl ?_
      refine aw_iload_n 2 dX11_bestPuff_52 rfl rfl ?_
      refine aw_iload 6 dX11_bestPuff_53 rfl ?_
      refine aw_iload_n 3 dX11_bestPuff_55 rfl rfl ?_
      refine aw_iload 4 dX11_bestPuff_56 rfl ?_
      refine aw_iload 5 dX11_bestPuff_58 rfl ?_
      refine aw_callVW_U (c11_takeShot σ x1 x2 x7 x3 x4 x5) (io_11 (by decide)) ci_11 (by decide) mk_11_takeShot w_1080 w_25 w_1078 rfl rfl (Nat.le_of_ble_eq_true rfl) dX11_bestPuff_60 (fun _ s_5 => ?_)
      refine aw_aload_n 0 dX11_bestPuff_63 rfl rfl ?_
      refine aw_iload 6 dX11_bestPuff_64 rfl ?_
      refine aw_callVW_U (c11_offerMean s_5 x7) (io_11 (by decide)) ci_11 (by decide) mk_11_offerMean w_1227 w_33 w_1225 rfl rfl (Nat.le_of_ble_eq_true rfl) dX11_bestPuff_66 (fun _ s_6 => ?_)
      refine aw_iinc (ls' := [(0, .ref (ad 11 0 0)), (1, .int x1), (2, .int x2), (3, .int x3), (4, .int x4), (5, .int x5), (7, .int (x7 + 1))]) (x7 + 1) 6 [1, 2, 3, 4, 5, 6, 0] dX11_bestPuff_69 rfl (by rfl) (by decide) rfl ?_
      refine aw_goto 36 dX11_bestPuff_72 (by decide) ?_
      exact ih s_6 (x7 + 1)
def F11_bestPuff (σ : Mem) (x1 : Int32) (x2 : Int32) (x3 : Int32) (x4 : Int32) (x5 : Int32) : Option (Int32 × Mem) :=
  (F11_wrongShot σ x1 x2 1 x3 x4 x5).bind fun v_1 => if v_1 = 0 then (bd (F1_begin σ) fun _ s_2 => bd (F11_bestPuff_L36 x1 x2 x3 x4 x5 fuelK s_2 1) fun r_7 s_8 => bd (F11_answerBest s_8) fun v_9 s_10 => some (v_9, s_10)) else (bd (F11_refuse σ v_1) fun v_11 s_12 => some (v_11, s_12))
set_option maxRecDepth 20000 in
theorem c11_bestPuff {l : Launch} {D : va_G} {ad : Nat → Nat → Nat → Nat} {cid : Nat → Nat → Nat → ClassId} (σ : Mem) (x1 : Int32) (x2 : Int32) (x3 : Int32) (x4 : Int32) (x5 : Int32) : AMF (XC l D ad cid) M11_bestPuff 6 eI [.ref (ad 11 0 0), .int x1, .int x2, .int x3, .int x4, .int x5] σ (F11_bestPuff σ x1 x2 x3 x4 x5) := by
  refine AM.ofW (by decide +kernel) (Nat.le_of_ble_eq_true rfl) (ls := [(0, .ref (ad 11 0 0)), (1, .int x1), (2, .int x2), (3, .int x3), (4, .int x4), (5, .int x5)]) rfl ?_
  refine aw_entry ?_
  unfold F11_bestPuff
  refine aw_aload_n 0 dX11_bestPuff_0 rfl rfl ?_
  refine aw_iload_n 1 dX11_bestPuff_1 rfl rfl ?_
  refine aw_iload_n 2 dX11_bestPuff_2 rfl rfl ?_
  refine aw_iconst 1 dX11_bestPuff_3 (by decide) ?_
  refine aw_iload_n 3 dX11_bestPuff_4 rfl rfl ?_
  refine aw_iload 4 dX11_bestPuff_5 rfl ?_
  refine aw_iload 5 dX11_bestPuff_7 rfl ?_
  refine aw_callVO_I (c11_wrongShot σ x1 x2 1 x3 x4 x5) (io_11 (by decide)) ci_11 (by decide) mk_11_wrongShot w_1113 w_28 w_1111 rfl rfl (Nat.le_of_ble_eq_true rfl) dX11_bestPuff_9 (fun v_1 => ?_)
  refine aw_istore (ls' := [(0, .ref (ad 11 0 0)), (1, .int x1), (2, .int x2), (3, .int x3), (4, .int x4), (5, .int x5), (6, .int v_1)]) [1, 2, 3, 4, 5, 6, 0] dX11_bestPuff_12 (by decide) rfl ?_
  refine aw_iload 6 dX11_bestPuff_14 rfl ?_
  refine aw_if_eq 26 dX11_bestPuff_16 (by decide) ?_ ?_
  · refine aw_aload_n 0 dX11_bestPuff_26 rfl rfl ?_
    refine aw_getf (fg_11_17 (by decide)) ci_11 (by decide) w_734 dX11_bestPuff_27 ?_
    refine aw_callVW_U (c1_begin σ ) (io_1 (by decide)) ci_1 (by decide) mk_1_begin w_1195 w_1196 w_1194 rfl rfl (Nat.le_of_ble_eq_true rfl) dX11_bestPuff_30 (fun _ s_2 => ?_)
    refine aw_iconst 1 dX11_bestPuff_33 (by decide) ?_
    refine aw_istore (ls' := [(0, .ref (ad 11 0 0)), (1, .int x1), (2, .int x2), (3, .int x3), (4, .int x4), (5, .int x5), (7, .int 1)]) [1, 2, 3, 4, 5, 6, 0] dX11_bestPuff_34 (by decide) rfl ?_
    refine aw_assocW ?_
    refine c11_bestPuff_L36 x1 x2 x3 x4 x5 (fun r_7 s_8 => ?_) fuelK s_2 1
    refine aw_aload_n 0 dX11_bestPuff_75 rfl rfl ?_
    refine aw_callVW_I (c11_answerBest s_8 ) (io_11 (by decide)) ci_11 (by decide) mk_11_answerBest w_1232 w_34 w_1230 rfl rfl (Nat.le_of_ble_eq_true rfl) dX11_bestPuff_76 (fun v_9 s_10 => ?_)
    exact aw_ireturn rfl dX11_bestPuff_79
  · refine aw_aload_n 0 dX11_bestPuff_19 rfl rfl ?_
    refine aw_iload 6 dX11_bestPuff_20 rfl ?_
    refine aw_callVW_I (c11_refuse σ v_1) (io_11 (by decide)) ci_11 (by decide) mk_11_refuse w_838 w_3 w_836 rfl rfl (Nat.le_of_ble_eq_true rfl) dX11_bestPuff_22 (fun v_11 s_12 => ?_)
    exact aw_ireturn rfl dX11_bestPuff_25
def F11_bestBeat_L36 (x1 : Int32) (x2 : Int32) (x3 : Int32) (x4 : Int32) (x5 : Int32) : Nat → Mem → Int32 → Option ((Unit) × Mem)
  | 0 => fun _ _ => none
  | n + 1 => fun σ x7 =>
    if 3 < x7 then (some ((), σ)) else (bd (F11_takeShot σ x1 x2 x3 x7 x4 x5) fun _ s_3 => bd (F11_offerMean s_3 x7) fun _ s_4 => (F11_bestBeat_L36 x1 x2 x3 x4 x5 n) s_4 (x7 + 1))
set_option maxRecDepth 20000 in
theorem c11_bestBeat_L36 {l : Launch} {D : va_G} {ad : Nat → Nat → Nat → Nat} {cid : Nat → Nat → Nat → ClassId} {α : Type} {emb : α → Option Value} (x1 : Int32) (x2 : Int32) (x3 : Int32) (x4 : Int32) (x5 : Int32) {G : Unit → Mem → Option (α × Mem)} (kx : ∀ r σ, AW (XC l D ad cid) M11_bestBeat 6 emb [(0, .ref (ad 11 0 0))] 67 [] σ (G r σ)) : ∀ (n : Nat) (σ : Mem) (x7 : Int32), AW (XC l D ad cid) M11_bestBeat 6 emb [(0, .ref (ad 11 0 0)), (1, .int x1), (2, .int x2), (3, .int x3), (4, .int x4), (5, .int x5), (7, .int x7)] 36 [] σ (bd (F11_bestBeat_L36 x1 x2 x3 x4 x5 n σ x7) G) := by
  intro n
  induction n with
  | zero => intros; exact aw_none
  | succ n ih =>
    intro σ x7
    refine aw_bdB ?_
    rw [F11_bestBeat_L36.eq_2]
    refine aw_iload 6 dX11_bestBeat_36 rfl ?_
    refine aw_iconst 3 dX11_bestBeat_38 (by decide) ?_
    refine aw_icmp_gt 67 dX11_bestBeat_39 (by decide) ?_ ?_
    · refine aw_ls (ls' := [(0, .ref (ad 11 0 0))]) [0] rfl ?_
      exact kx () σ
    · refine aw_aload_n 0 dX11_bestBeat_42 rfl rfl ?_
      refine aw_iload_n 1 dX11_bestBeat_43 rfl rfl ?_
      refine aw_iload_n 2 dX11_bestBeat_44 rfl rfl ?_
      refine aw_iload_n 3 dX11_bestBeat_45 rfl rfl ?_
      refine aw_iload 6 dX11_bestBeat_46 rfl ?_
      refine aw_iload 4 dX11_bestBeat_48 rfl ?_
      refine aw_iload 5 dX11_bestBeat_50 rfl ?_
      refine aw_callVW_U (c11_takeShot σ x1 x2 x3 x7 x4 x5) (io_11 (by decide)) ci_11 (by decide) mk_11_takeShot w_1080 w_25 w_1078 rfl rfl (Nat.le_of_ble_eq_true rfl) dX11_bestBeat_52 (fun _ s_3 => ?_)
      refine aw_aload_n 0 dX11_bestBeat_55 rfl rfl ?_
      refine aw_iload 6 dX11_bestBeat_56 rfl ?_
      refine aw_callVW_U (c11_offerMean s_3 x7) (io_11 (by decide)) ci_11 (by decide) mk_11_offerMean w_1227 w_33 w_1225 rfl rfl (Nat.le_of_ble_eq_true rfl) dX11_bestBeat_58 (fun _ s_4 => ?_)
      refine aw_iinc (ls' := [(0, .ref (ad 11 0 0)), (1, .int x1), (2, .int x2), (3, .int x3), (4, .int x4), (5, .int x5), (7, .int (x7 + 1))]) (x7 + 1) 6 [1, 2, 3, 4, 5, 6, 0] dX11_bestBeat_61 rfl (by rfl) (by decide) rfl ?_
      refine aw_goto 36 dX11_bestBeat_64 (by decide) ?_
      exact ih s_4 (x7 + 1)
def F11_bestBeat (σ : Mem) (x1 : Int32) (x2 : Int32) (x3 : Int32) (x4 : Int32) (x5 : Int32) : Option (Int32 × Mem) :=
  (F11_wrongShot σ x1 x2 x3 0 x4 x5).bind fun v_1 => if v_1 = 0 then (bd (F1_begin σ) fun _ s_2 => bd (F11_bestBeat_L36 x1 x2 x3 x4 x5 fuelK s_2 0) fun r_5 s_6 => bd (F11_answerBest s_6) fun v_7 s_8 => some (v_7, s_8)) else (bd (F11_refuse σ v_1) fun v_9 s_10 => some (v_9, s_10))
set_option maxRecDepth 20000 in
theorem c11_bestBeat {l : Launch} {D : va_G} {ad : Nat → Nat → Nat → Nat} {cid : Nat → Nat → Nat → ClassId} (σ : Mem) (x1 : Int32) (x2 : Int32) (x3 : Int32) (x4 : Int32) (x5 : Int32) : AMF (XC l D ad cid) M11_bestBeat 6 eI [.ref (ad 11 0 0), .int x1, .int x2, .int x3, .int x4, .int x5] σ (F11_bestBeat σ x1 x2 x3 x4 x5) := by
  refine AM.ofW (by decide +kernel) (Nat.le_of_ble_eq_true rfl) (ls := [(0, .ref (ad 11 0 0)), (1, .int x1), (2, .int x2), (3, .int x3), (4, .int x4), (5, .int x5)]) rfl ?_
  refine aw_entry ?_
  unfold F11_bestBeat
  refine aw_aload_n 0 dX11_bestBeat_0 rfl rfl ?_
  refine aw_iload_n 1 dX11_bestBeat_1 rfl rfl ?_
  refine aw_iload_n 2 dX11_bestBeat_2 rfl rfl ?_
  refine aw_iload_n 3 dX11_bestBeat_3 rfl rfl ?_
  refine aw_iconst 0 dX11_bestBeat_4 (by decide) ?_
  refine aw_iload 4 dX11_bestBeat_5 rfl ?_
  refine aw_iload 5 dX11_bestBeat_7 rfl ?_
  refine aw_callVO_I (c11_wrongShot σ x1 x2 x3 0 x4 x5) (io_11 (by decide)) ci_11 (by decide) mk_11_wrongShot w_1113 w_28 w_1111 rfl rfl (Nat.le_of_ble_eq_true rfl) dX11_bestBeat_9 (fun v_1 => ?_)
  refine aw_istore (ls' := [(0, .ref (ad 11 0 0)), (1, .int x1), (2, .int x2), (3, .int x3), (4, .int x4), (5, .int x5), (6, .int v_1)]) [1, 2, 3, 4, 5, 6, 0] dX11_bestBeat_12 (by decide) rfl ?_
  refine aw_iload 6 dX11_bestBeat_14 rfl ?_
  refine aw_if_eq 26 dX11_bestBeat_16 (by decide) ?_ ?_
  · refine aw_aload_n 0 dX11_bestBeat_26 rfl rfl ?_
    refine aw_getf (fg_11_17 (by decide)) ci_11 (by decide) w_734 dX11_bestBeat_27 ?_
    refine aw_callVW_U (c1_begin σ ) (io_1 (by decide)) ci_1 (by decide) mk_1_begin w_1195 w_1196 w_1194 rfl rfl (Nat.le_of_ble_eq_true rfl) dX11_bestBeat_30 (fun _ s_2 => ?_)
    refine aw_iconst 0 dX11_bestBeat_33 (by decide) ?_
    refine aw_istore (ls' := [(0, .ref (ad 11 0 0)), (1, .int x1), (2, .int x2), (3, .int x3), (4, .int x4), (5, .int x5), (7, .int 0)]) [1, 2, 3, 4, 5, 6, 0] dX11_bestBeat_34 (by decide) rfl ?_
    refine aw_assocW ?_
    refine c11_bestBeat_L36 x1 x2 x3 x4 x5 (fun r_5 s_6 => ?_) fuelK s_2 0
    refine aw_aload_n 0 dX11_bestBeat_67 rfl rfl ?_
    refine aw_callVW_I (c11_answerBest s_6 ) (io_11 (by decide)) ci_11 (by decide) mk_11_answerBest w_1232 w_34 w_1230 rfl rfl (Nat.le_of_ble_eq_true rfl) dX11_bestBeat_68 (fun v_7 s_8 => ?_)
    exact aw_ireturn rfl dX11_bestBeat_71
  · refine aw_aload_n 0 dX11_bestBeat_19 rfl rfl ?_
    refine aw_iload 6 dX11_bestBeat_20 rfl ?_
    refine aw_callVW_I (c11_refuse σ v_1) (io_11 (by decide)) ci_11 (by decide) mk_11_refuse w_838 w_3 w_836 rfl rfl (Nat.le_of_ble_eq_true rfl) dX11_bestBeat_22 (fun v_9 s_10 => ?_)
    exact aw_ireturn rfl dX11_bestBeat_25
def F11_longest_L38 (x1 : Int32) (x2 : Int32) (x3 : Int32) (x4 : Int32) (x5 : Int32) (x6 : Int32) : Nat → Mem → Int32 → Option ((Unit) × Mem)
  | 0 => fun _ _ => none
  | n + 1 => fun σ x8 =>
    if 48 < x8 then (some ((), σ)) else (bd (F11_takeShot σ x1 x2 x3 x4 x5 x6) fun _ s_3 => bnd (sI s_3 6 0 0 7 x8) fun s_4 => bd (F11_offerMean s_4 x8) fun _ s_5 => (F11_longest_L38 x1 x2 x3 x4 x5 x6 n) s_5 (x8 + 1))
set_option maxRecDepth 20000 in
theorem c11_longest_L38 {l : Launch} {D : va_G} {ad : Nat → Nat → Nat → Nat} {cid : Nat → Nat → Nat → ClassId} {α : Type} {emb : α → Option Value} (x1 : Int32) (x2 : Int32) (x3 : Int32) (x4 : Int32) (x5 : Int32) (x6 : Int32) {G : Unit → Mem → Option (α × Mem)} (kx : ∀ r σ, AW (XC l D ad cid) M11_longest 6 emb [(0, .ref (ad 11 0 0))] 79 [] σ (G r σ)) : ∀ (n : Nat) (σ : Mem) (x8 : Int32), AW (XC l D ad cid) M11_longest 6 emb [(0, .ref (ad 11 0 0)), (1, .int x1), (2, .int x2), (3, .int x3), (4, .int x4), (5, .int x5), (6, .int x6), (8, .int x8)] 38 [] σ (bd (F11_longest_L38 x1 x2 x3 x4 x5 x6 n σ x8) G) := by
  intro n
  induction n with
  | zero => intros; exact aw_none
  | succ n ih =>
    intro σ x8
    refine aw_bdB ?_
    rw [F11_longest_L38.eq_2]
    refine aw_iload 7 dX11_longest_38 rfl ?_
    refine aw_bipush 48 dX11_longest_40 (by decide) ?_
    refine aw_icmp_gt 79 dX11_longest_42 (by decide) ?_ ?_
    · refine aw_ls (ls' := [(0, .ref (ad 11 0 0))]) [0] rfl ?_
      exact kx () σ
    · refine aw_aload_n 0 dX11_longest_45 rfl rfl ?_
      refine aw_iload_n 1 dX11_longest_46 rfl rfl ?_
      refine aw_iload_n 2 dX11_longest_47 rfl rfl ?_
      refine aw_iload_n 3 dX11_longest_48 rfl rfl ?_
      refine aw_iload 4 dX11_longest_49 rfl ?_
      refine aw_iload 5 dX11_longest_51 rfl ?_
      refine aw_iload 6 dX11_longest_53 rfl ?_
      refine aw_callVW_U (c11_takeShot σ x1 x2 x3 x4 x5 x6) (io_11 (by decide)) ci_11 (by decide) mk_11_takeShot w_1080 w_25 w_1078 rfl rfl (Nat.le_of_ble_eq_true rfl) dX11_longest_55 (fun _ s_3 => ?_)
      refine aw_aload_n 0 dX11_longest_58 rfl rfl ?_
      refine aw_getf (fg_11_13 (by decide)) ci_11 (by decide) w_730 dX11_longest_59 ?_
      refine aw_iload 7 dX11_longest_62 rfl ?_
      refine aw_putI (fs_6_7 (by decide)) ci_6 (by decide) rfl rfl w_563 dX11_longest_64 ?_
      refine aw_bndM (fun s_4 => ?_)
      refine aw_aload_n 0 dX11_longest_67 rfl rfl ?_
      refine aw_iload 7 dX11_longest_68 rfl ?_
      refine aw_callVW_U (c11_offerMean s_4 x8) (io_11 (by decide)) ci_11 (by decide) mk_11_offerMean w_1227 w_33 w_1225 rfl rfl (Nat.le_of_ble_eq_true rfl) dX11_longest_70 (fun _ s_5 => ?_)
      refine aw_iinc (ls' := [(0, .ref (ad 11 0 0)), (1, .int x1), (2, .int x2), (3, .int x3), (4, .int x4), (5, .int x5), (6, .int x6), (8, .int (x8 + 1))]) (x8 + 1) 7 [1, 2, 3, 4, 5, 6, 7, 0] dX11_longest_73 rfl (by rfl) (by decide) rfl ?_
      refine aw_goto 38 dX11_longest_76 (by decide) ?_
      exact ih s_5 (x8 + 1)
def F11_longest (σ : Mem) (x1 : Int32) (x2 : Int32) (x3 : Int32) (x4 : Int32) (x5 : Int32) (x6 : Int32) : Option (Int32 × Mem) :=
  (F11_wrongShot σ x1 x2 x3 x4 x5 x6).bind fun v_1 => if v_1 = 0 then (bd (F1_begin σ) fun _ s_2 => bd (F11_longest_L38 x1 x2 x3 x4 x5 x6 fuelK s_2 12) fun r_6 s_7 => bd (F11_answerBest s_7) fun v_8 s_9 => some (v_8, s_9)) else (bd (F11_refuse σ v_1) fun v_10 s_11 => some (v_10, s_11))
set_option maxRecDepth 20000 in
theorem c11_longest {l : Launch} {D : va_G} {ad : Nat → Nat → Nat → Nat} {cid : Nat → Nat → Nat → ClassId} (σ : Mem) (x1 : Int32) (x2 : Int32) (x3 : Int32) (x4 : Int32) (x5 : Int32) (x6 : Int32) : AMF (XC l D ad cid) M11_longest 6 eI [.ref (ad 11 0 0), .int x1, .int x2, .int x3, .int x4, .int x5, .int x6] σ (F11_longest σ x1 x2 x3 x4 x5 x6) := by
  refine AM.ofW (by decide +kernel) (Nat.le_of_ble_eq_true rfl) (ls := [(0, .ref (ad 11 0 0)), (1, .int x1), (2, .int x2), (3, .int x3), (4, .int x4), (5, .int x5), (6, .int x6)]) rfl ?_
  refine aw_entry ?_
  unfold F11_longest
  refine aw_aload_n 0 dX11_longest_0 rfl rfl ?_
  refine aw_iload_n 1 dX11_longest_1 rfl rfl ?_
  refine aw_iload_n 2 dX11_longest_2 rfl rfl ?_
  refine aw_iload_n 3 dX11_longest_3 rfl rfl ?_
  refine aw_iload 4 dX11_longest_4 rfl ?_
  refine aw_iload 5 dX11_longest_6 rfl ?_
  refine aw_iload 6 dX11_longest_8 rfl ?_
  refine aw_callVO_I (c11_wrongShot σ x1 x2 x3 x4 x5 x6) (io_11 (by decide)) ci_11 (by decide) mk_11_wrongShot w_1113 w_28 w_1111 rfl rfl (Nat.le_of_ble_eq_true rfl) dX11_longest_10 (fun v_1 => ?_)
  refine aw_istore (ls' := [(0, .ref (ad 11 0 0)), (1, .int x1), (2, .int x2), (3, .int x3), (4, .int x4), (5, .int x5), (6, .int x6), (7, .int v_1)]) [1, 2, 3, 4, 5, 6, 7, 0] dX11_longest_13 (by decide) rfl ?_
  refine aw_iload 7 dX11_longest_15 rfl ?_
  refine aw_if_eq 27 dX11_longest_17 (by decide) ?_ ?_
  · refine aw_aload_n 0 dX11_longest_27 rfl rfl ?_
    refine aw_getf (fg_11_17 (by decide)) ci_11 (by decide) w_734 dX11_longest_28 ?_
    refine aw_callVW_U (c1_begin σ ) (io_1 (by decide)) ci_1 (by decide) mk_1_begin w_1195 w_1196 w_1194 rfl rfl (Nat.le_of_ble_eq_true rfl) dX11_longest_31 (fun _ s_2 => ?_)
    refine aw_bipush 12 dX11_longest_34 (by decide) ?_
    refine aw_istore (ls' := [(0, .ref (ad 11 0 0)), (1, .int x1), (2, .int x2), (3, .int x3), (4, .int x4), (5, .int x5), (6, .int x6), (8, .int 12)]) [1, 2, 3, 4, 5, 6, 7, 0] dX11_longest_36 (by decide) rfl ?_
    refine aw_assocW ?_
    refine c11_longest_L38 x1 x2 x3 x4 x5 x6 (fun r_6 s_7 => ?_) fuelK s_2 12
    refine aw_aload_n 0 dX11_longest_79 rfl rfl ?_
    refine aw_callVW_I (c11_answerBest s_7 ) (io_11 (by decide)) ci_11 (by decide) mk_11_answerBest w_1232 w_34 w_1230 rfl rfl (Nat.le_of_ble_eq_true rfl) dX11_longest_80 (fun v_8 s_9 => ?_)
    exact aw_ireturn rfl dX11_longest_83
  · refine aw_aload_n 0 dX11_longest_20 rfl rfl ?_
    refine aw_iload 7 dX11_longest_21 rfl ?_
    refine aw_callVW_I (c11_refuse σ v_1) (io_11 (by decide)) ci_11 (by decide) mk_11_refuse w_838 w_3 w_836 rfl rfl (Nat.le_of_ble_eq_true rfl) dX11_longest_23 (fun v_10 s_11 => ?_)
    exact aw_ireturn rfl dX11_longest_26
def F11_bestPea_L73 (x1 : Int32) (x2 : Int32) (x3 : Int32) : Nat → Mem → Int32 → Option ((Unit) × Mem)
  | 0 => fun _ _ => none
  | n + 1 => fun σ x4 =>
    gd 5 (gR σ 11 0 0 5) fun t_8 => if (gI σ 9 t_8 0 7) ≤ x4 then (some ((), σ)) else (bd (F11_takeShot σ x1 x4 x2 x3 0 0) fun _ s_9 => bd (F11_offerMean s_9 x4) fun _ s_10 => (F11_bestPea_L73 x1 x2 x3 n) s_10 (x4 + 1))
set_option maxRecDepth 20000 in
theorem c11_bestPea_L73 {l : Launch} {D : va_G} {ad : Nat → Nat → Nat → Nat} {cid : Nat → Nat → Nat → ClassId} {α : Type} {emb : α → Option Value} (x1 : Int32) (x2 : Int32) (x3 : Int32) {G : Unit → Mem → Option (α × Mem)} (kx : ∀ r σ, AW (XC l D ad cid) M11_bestPea 6 emb [(0, .ref (ad 11 0 0))] 108 [] σ (G r σ)) : ∀ (n : Nat) (σ : Mem) (x4 : Int32), AW (XC l D ad cid) M11_bestPea 6 emb [(0, .ref (ad 11 0 0)), (1, .int x1), (2, .int x2), (3, .int x3), (4, .int x4)] 73 [] σ (bd (F11_bestPea_L73 x1 x2 x3 n σ x4) G) := by
  intro n
  induction n with
  | zero => intros; exact aw_none
  | succ n ih =>
    intro σ x4
    refine aw_bdB ?_
    rw [F11_bestPea_L73.eq_2]
    refine aw_iload 4 dX11_bestPea_73 rfl ?_
    refine aw_aload_n 0 dX11_bestPea_75 rfl rfl ?_
    refine aw_getf (fg_11_5 (by decide)) ci_11 (by decide) w_722 dX11_bestPea_76 ?_
    refine aw_gd (n := 5) (fun t_8 ht_8 => ?_)
    refine aw_getf (fg_9_7 (by omega)) ci_9 (by decide) w_338 dX11_bestPea_79 ?_
    refine aw_icmp_ge 108 dX11_bestPea_82 (by decide) ?_ ?_
    · refine aw_ls (ls' := [(0, .ref (ad 11 0 0))]) [0] rfl ?_
      exact kx () σ
    · refine aw_aload_n 0 dX11_bestPea_85 rfl rfl ?_
      refine aw_iload_n 1 dX11_bestPea_86 rfl rfl ?_
      refine aw_iload 4 dX11_bestPea_87 rfl ?_
      refine aw_iload_n 2 dX11_bestPea_89 rfl rfl ?_
      refine aw_iload_n 3 dX11_bestPea_90 rfl rfl ?_
      refine aw_iconst 0 dX11_bestPea_91 (by decide) ?_
      refine aw_iconst 0 dX11_bestPea_92 (by decide) ?_
      refine aw_callVW_U (c11_takeShot σ x1 x4 x2 x3 0 0) (io_11 (by decide)) ci_11 (by decide) mk_11_takeShot w_1080 w_25 w_1078 rfl rfl (Nat.le_of_ble_eq_true rfl) dX11_bestPea_93 (fun _ s_9 => ?_)
      refine aw_aload_n 0 dX11_bestPea_96 rfl rfl ?_
      refine aw_iload 4 dX11_bestPea_97 rfl ?_
      refine aw_callVW_U (c11_offerMean s_9 x4) (io_11 (by decide)) ci_11 (by decide) mk_11_offerMean w_1227 w_33 w_1225 rfl rfl (Nat.le_of_ble_eq_true rfl) dX11_bestPea_99 (fun _ s_10 => ?_)
      refine aw_iinc (ls' := [(0, .ref (ad 11 0 0)), (1, .int x1), (2, .int x2), (3, .int x3), (4, .int (x4 + 1))]) (x4 + 1) 4 [1, 2, 3, 4, 0] dX11_bestPea_102 rfl (by rfl) (by decide) rfl ?_
      refine aw_goto 73 dX11_bestPea_105 (by decide) ?_
      exact ih s_10 (x4 + 1)
def F11_bestPea (σ : Mem) (x1 : Int32) (x2 : Int32) (x3 : Int32) : Option (Int32 × Mem) :=
  (F11_isShooter σ x1).bind fun v_1 => if v_1 = true then (gd 5 (gR σ 11 0 0 5) fun t_2 => (ald 6 (gI σ 9 t_2 9) x1).bind fun v_3 => if (F11_within x2 1 v_3) = true then (if (F11_within x3 0 3) = true then (gd 5 (gR σ 11 0 0 5) fun t_6 => if (gI σ 9 t_6 0 7) = 0 then (bd (F11_refuse σ 8) fun v_15 s_16 => some (v_15, s_16)) else (bd (F1_begin σ) fun _ s_7 => bd (F11_bestPea_L73 x1 x2 x3 fuelK s_7 0) fun r_11 s_12 => bd (F11_answerBest s_12) fun v_13 s_14 => some (v_13, s_14))) else (bd (F11_refuse σ 5) fun v_17 s_18 => some (v_17, s_18))) else (bd (F11_refuse σ 5) fun v_4 s_5 => some (v_4, s_5))) else (bd (F11_refuse σ 2) fun v_19 s_20 => some (v_19, s_20))
set_option maxRecDepth 20000 in
theorem c11_bestPea {l : Launch} {D : va_G} {ad : Nat → Nat → Nat → Nat} {cid : Nat → Nat → Nat → ClassId} (σ : Mem) (x1 : Int32) (x2 : Int32) (x3 : Int32) : AMF (XC l D ad cid) M11_bestPea 6 eI [.ref (ad 11 0 0), .int x1, .int x2, .int x3] σ (F11_bestPea σ x1 x2 x3) := by
  refine AM.ofW (by decide +kernel) (Nat.le_of_ble_eq_true rfl) (ls := [(0, .ref (ad 11 0 0)), (1, .int x1), (2, .int x2), (3, .int x3)]) rfl ?_
  refine aw_entry ?_
  unfold F11_bestPea
  refine aw_aload_n 0 dX11_bestPea_0 rfl rfl ?_
  refine aw_iload_n 1 dX11_bestPea_1 rfl rfl ?_
  refine aw_callVO_B (c11_isShooter σ x1) (io_11 (by decide)) ci_11 (by decide) mk_11_isShooter w_1064 w_23 w_1062 rfl rfl (Nat.le_of_ble_eq_true rfl) dX11_bestPea_2 (fun v_1 => ?_)
  refine aw_bif_ne 14 dX11_bestPea_5 (by decide) ?_ ?_
  · refine aw_iload_n 2 dX11_bestPea_14 rfl rfl ?_
    refine aw_iconst 1 dX11_bestPea_15 (by decide) ?_
    refine aw_aload_n 0 dX11_bestPea_16 rfl rfl ?_
    refine aw_getf (fg_11_5 (by decide)) ci_11 (by decide) w_722 dX11_bestPea_17 ?_
    refine aw_gd (n := 5) (fun t_2 ht_2 => ?_)
    refine aw_getf (fg_9_15 (by omega)) ci_9 (by decide) w_357 dX11_bestPea_20 ?_
    refine aw_iload_n 1 dX11_bestPea_23 rfl rfl ?_
    refine aw_iaload (ar_9_9 (by omega)) dX11_bestPea_24 (fun v_3 => ?_)
    refine aw_callST_B (c11_within σ x2 1 v_3) (by decide) mk_11_within w_798 w_797 rfl rfl (Nat.le_of_ble_eq_true rfl) dX11_bestPea_25 ?_
    refine aw_bif_eq 40 dX11_bestPea_28 (by decide) ?_ ?_
    · refine aw_aload_n 0 dX11_bestPea_40 rfl rfl ?_
      refine aw_iconst 5 dX11_bestPea_41 (by decide) ?_
      refine aw_callVW_I (c11_refuse σ 5) (io_11 (by decide)) ci_11 (by decide) mk_11_refuse w_838 w_3 w_836 rfl rfl (Nat.le_of_ble_eq_true rfl) dX11_bestPea_42 (fun v_4 s_5 => ?_)
      exact aw_ireturn rfl dX11_bestPea_45
    · refine aw_iload_n 3 dX11_bestPea_31 rfl rfl ?_
      refine aw_iconst 0 dX11_bestPea_32 (by decide) ?_
      refine aw_iconst 3 dX11_bestPea_33 (by decide) ?_
      refine aw_callST_B (c11_within σ x3 0 3) (by decide) mk_11_within w_798 w_797 rfl rfl (Nat.le_of_ble_eq_true rfl) dX11_bestPea_34 ?_
      refine aw_bif_ne 46 dX11_bestPea_37 (by decide) ?_ ?_
      · refine aw_aload_n 0 dX11_bestPea_46 rfl rfl ?_
        refine aw_getf (fg_11_5 (by decide)) ci_11 (by decide) w_722 dX11_bestPea_47 ?_
        refine aw_gd (n := 5) (fun t_6 ht_6 => ?_)
        refine aw_getf (fg_9_7 (by omega)) ci_9 (by decide) w_338 dX11_bestPea_50 ?_
        refine aw_if_ne 63 dX11_bestPea_53 (by decide) ?_ ?_
        · refine aw_aload_n 0 dX11_bestPea_63 rfl rfl ?_
          refine aw_getf (fg_11_17 (by decide)) ci_11 (by decide) w_734 dX11_bestPea_64 ?_
          refine aw_callVW_U (c1_begin σ ) (io_1 (by decide)) ci_1 (by decide) mk_1_begin w_1195 w_1196 w_1194 rfl rfl (Nat.le_of_ble_eq_true rfl) dX11_bestPea_67 (fun _ s_7 => ?_)
          refine aw_iconst 0 dX11_bestPea_70 (by decide) ?_
          refine aw_istore (ls' := [(0, .ref (ad 11 0 0)), (1, .int x1), (2, .int x2), (3, .int x3), (4, .int 0)]) [1, 2, 3, 4, 0] dX11_bestPea_71 (by decide) rfl ?_
          refine aw_assocW ?_
          refine c11_bestPea_L73 x1 x2 x3 (fun r_11 s_12 => ?_) fuelK s_7 0
          refine aw_aload_n 0 dX11_bestPea_108 rfl rfl ?_
          refine aw_callVW_I (c11_answerBest s_12 ) (io_11 (by decide)) ci_11 (by decide) mk_11_answerBest w_1232 w_34 w_1230 rfl rfl (Nat.le_of_ble_eq_true rfl) dX11_bestPea_109 (fun v_13 s_14 => ?_)
          exact aw_ireturn rfl dX11_bestPea_112
        · refine aw_aload_n 0 dX11_bestPea_56 rfl rfl ?_
          refine aw_bipush 8 dX11_bestPea_57 (by decide) ?_
          refine aw_callVW_I (c11_refuse σ 8) (io_11 (by decide)) ci_11 (by decide) mk_11_refuse w_838 w_3 w_836 rfl rfl (Nat.le_of_ble_eq_true rfl) dX11_bestPea_59 (fun v_15 s_16 => ?_)
          exact aw_ireturn rfl dX11_bestPea_62
      · refine aw_aload_n 0 dX11_bestPea_40 rfl rfl ?_
        refine aw_iconst 5 dX11_bestPea_41 (by decide) ?_
        refine aw_callVW_I (c11_refuse σ 5) (io_11 (by decide)) ci_11 (by decide) mk_11_refuse w_838 w_3 w_836 rfl rfl (Nat.le_of_ble_eq_true rfl) dX11_bestPea_42 (fun v_17 s_18 => ?_)
        exact aw_ireturn rfl dX11_bestPea_45
  · refine aw_aload_n 0 dX11_bestPea_8 rfl rfl ?_
    refine aw_iconst 2 dX11_bestPea_9 (by decide) ?_
    refine aw_callVW_I (c11_refuse σ 2) (io_11 (by decide)) ci_11 (by decide) mk_11_refuse w_838 w_3 w_836 rfl rfl (Nat.le_of_ble_eq_true rfl) dX11_bestPea_10 (fun v_19 s_20 => ?_)
    exact aw_ireturn rfl dX11_bestPea_13
def F11_sumOfSeries_p75 (rc : Mem → Int64 → Int32 → Option ((Int64) × Mem)) (σ : Mem) (x1 : Int32) (x2 : Int32) (y3 : Int64) (x5 : Int32) : Option ((Int64) × Mem) :=
  if x2 ≤ 0 then (rc σ y3 (x5 + 1)) else (if x2 = 0 then none else if (iRem x5 x2) = 0 then (bnd (sI σ 6 0 0 6 0) fun s_6 => rc s_6 y3 (x5 + 1)) else (rc σ y3 (x5 + 1)))
set_option maxRecDepth 20000 in
theorem c11_sumOfSeries_p75 {l : Launch} {D : va_G} {ad : Nat → Nat → Nat → Nat} {cid : Nat → Nat → Nat → ClassId} {α : Type} {emb : α → Option Value}  (x1 : Int32) (x2 : Int32) {G : Int64 → Mem → Option (α × Mem)} (kx : ∀ r σ, AW (XC l D ad cid) M11_sumOfSeries 5 emb [(3, .long r)] 100 [] σ (G r σ)) {rc : Mem → Int64 → Int32 → Option ((Int64) × Mem)} (ih : ∀ (σ : Mem) (y3 : Int64) (x5 : Int32), AW (XC l D ad cid) M11_sumOfSeries 5 emb [(0, .ref (ad 11 0 0)), (1, .int x1), (2, .int x2), (3, .long y3), (5, .int x5)] 13 [] σ (bd (rc σ y3 x5) G)) (σ : Mem) (y3 : Int64) (x5 : Int32) : AW (XC l D ad cid) M11_sumOfSeries 5 emb [(0, .ref (ad 11 0 0)), (1, .int x1), (2, .int x2), (3, .long y3), (5, .int x5)] 75 [] σ ((F11_sumOfSeries_p75 rc σ x1 x2 y3 x5).bind (fun q => G q.1 q.2)) := by
  unfold F11_sumOfSeries_p75
  refine aw_iload_n 2 dX11_sumOfSeries_75 rfl rfl ?_
  refine aw_if_le 94 dX11_sumOfSeries_76 (by decide) ?_ ?_
  · refine aw_iinc (ls' := [(0, .ref (ad 11 0 0)), (1, .int x1), (2, .int x2), (3, .long y3), (5, .int (x5 + 1))]) (x5 + 1) 4 [1, 2, 3, 4, 0] dX11_sumOfSeries_94 rfl (by rfl) (by decide) rfl ?_
    refine aw_goto 13 dX11_sumOfSeries_97 (by decide) ?_
    exact ih σ y3 (x5 + 1)
  · refine aw_iload 4 dX11_sumOfSeries_79 rfl ?_
    refine aw_iload_n 2 dX11_sumOfSeries_81 rfl rfl ?_
    refine aw_irem dX11_sumOfSeries_82 ?_
    refine aw_if_ne 94 dX11_sumOfSeries_83 (by decide) ?_ ?_
    · refine aw_iinc (ls' := [(0, .ref (ad 11 0 0)), (1, .int x1), (2, .int x2), (3, .long y3), (5, .int (x5 + 1))]) (x5 + 1) 4 [1, 2, 3, 4, 0] dX11_sumOfSeries_94 rfl (by rfl) (by decide) rfl ?_
      refine aw_goto 13 dX11_sumOfSeries_97 (by decide) ?_
      exact ih σ y3 (x5 + 1)
    · refine aw_aload_n 0 dX11_sumOfSeries_86 rfl rfl ?_
      refine aw_getf (fg_11_13 (by decide)) ci_11 (by decide) w_730 dX11_sumOfSeries_87 ?_
      refine aw_iconst 0 dX11_sumOfSeries_90 (by decide) ?_
      refine aw_putI (fs_6_6 (by decide)) ci_6 (by decide) rfl rfl w_560 dX11_sumOfSeries_91 ?_
      refine aw_bndM (fun s_6 => ?_)
      refine aw_iinc (ls' := [(0, .ref (ad 11 0 0)), (1, .int x1), (2, .int x2), (3, .long y3), (5, .int (x5 + 1))]) (x5 + 1) 4 [1, 2, 3, 4, 0] dX11_sumOfSeries_94 rfl (by rfl) (by decide) rfl ?_
      refine aw_goto 13 dX11_sumOfSeries_97 (by decide) ?_
      exact ih s_6 y3 (x5 + 1)
def F11_sumOfSeries_L13 (x1 : Int32) (x2 : Int32) : Nat → Mem → Int64 → Int32 → Option ((Int64) × Mem)
  | 0 => fun _ _ _ => none
  | n + 1 => fun σ y3 x5 =>
    if x1 < x5 then (some (y3, σ)) else (gd 5 (gR σ 11 0 0 5) fun t_2 => bd (F2_reckon σ 0 t_2 0) fun _ s_3 => (F2_sum s_3 0).bind fun v_4 => bnd (y3 + v_4) fun v_5 => if (gI s_3 6 0 0 8) = 0 then (bnd (sI s_3 6 0 0 6 (iMin 20 ((gI s_3 6 0 0 6) + 1))) fun s_7 => F11_sumOfSeries_p75 (F11_sumOfSeries_L13 x1 x2 n) s_7 x1 x2 v_5 x5) else (F11_sumOfSeries_p75 (F11_sumOfSeries_L13 x1 x2 n) s_3 x1 x2 v_5 x5))
set_option maxRecDepth 20000 in
theorem c11_sumOfSeries_L13 {l : Launch} {D : va_G} {ad : Nat → Nat → Nat → Nat} {cid : Nat → Nat → Nat → ClassId} {α : Type} {emb : α → Option Value} (x1 : Int32) (x2 : Int32) {G : Int64 → Mem → Option (α × Mem)} (kx : ∀ r σ, AW (XC l D ad cid) M11_sumOfSeries 5 emb [(3, .long r)] 100 [] σ (G r σ)) : ∀ (n : Nat) (σ : Mem) (y3 : Int64) (x5 : Int32), AW (XC l D ad cid) M11_sumOfSeries 5 emb [(0, .ref (ad 11 0 0)), (1, .int x1), (2, .int x2), (3, .long y3), (5, .int x5)] 13 [] σ (bd (F11_sumOfSeries_L13 x1 x2 n σ y3 x5) G) := by
  intro n
  induction n with
  | zero => intros; exact aw_none
  | succ n ih =>
    intro σ y3 x5
    refine aw_bdB ?_
    rw [F11_sumOfSeries_L13.eq_2]
    refine aw_iload 4 dX11_sumOfSeries_13 rfl ?_
    refine aw_iload_n 1 dX11_sumOfSeries_15 rfl rfl ?_
    refine aw_icmp_gt 100 dX11_sumOfSeries_16 (by decide) ?_ ?_
    · refine aw_ls (ls' := [(3, .long y3)]) [3] rfl ?_
      exact kx y3 σ
    · refine aw_aload_n 0 dX11_sumOfSeries_19 rfl rfl ?_
      refine aw_getf (fg_11_14 (by decide)) ci_11 (by decide) w_731 dX11_sumOfSeries_20 ?_
      refine aw_aload_n 0 dX11_sumOfSeries_23 rfl rfl ?_
      refine aw_getf (fg_11_5 (by decide)) ci_11 (by decide) w_722 dX11_sumOfSeries_24 ?_
      refine aw_gd (n := 5) (fun t_2 ht_2 => ?_)
      refine aw_aload_n 0 dX11_sumOfSeries_27 rfl rfl ?_
      refine aw_getf (fg_11_13 (by decide)) ci_11 (by decide) w_730 dX11_sumOfSeries_28 ?_
      refine aw_callVW_U (c2_reckon σ 0 (by decide) t_2 (by omega) 0 (by decide)) (io_2 (by decide)) ci_2 (by decide) mk_2_reckon w_1154 w_1155 w_1153 rfl rfl (Nat.le_of_ble_eq_true rfl) dX11_sumOfSeries_31 (fun _ s_3 => ?_)
      refine aw_lload_n 3 dX11_sumOfSeries_34 rfl rfl ?_
      refine aw_aload_n 0 dX11_sumOfSeries_35 rfl rfl ?_
      refine aw_getf (fg_11_14 (by decide)) ci_11 (by decide) w_731 dX11_sumOfSeries_36 ?_
      refine aw_callVO_L (c2_sum s_3 0 (by decide)) (io_2 (by decide)) ci_2 (by decide) mk_2_sum w_1187 w_1188 w_1186 rfl rfl (Nat.le_of_ble_eq_true rfl) dX11_sumOfSeries_39 (fun v_4 => ?_)
      refine aw_ladd dX11_sumOfSeries_42 ?_
      refine aw_bnd_long (fun v_5 => ?_)
      refine aw_lstore_n (ls' := [(0, .ref (ad 11 0 0)), (1, .int x1), (2, .int x2), (3, .long v_5), (5, .int x5)]) [1, 2, 3, 0, 4] dX11_sumOfSeries_43 rfl (by decide) rfl ?_
      refine aw_aload_n 0 dX11_sumOfSeries_44 rfl rfl ?_
      refine aw_getf (fg_11_13 (by decide)) ci_11 (by decide) w_730 dX11_sumOfSeries_45 ?_
      refine aw_getf (fg_6_8 (by decide)) ci_6 (by decide) w_568 dX11_sumOfSeries_48 ?_
      refine aw_if_ne 75 dX11_sumOfSeries_51 (by decide) ?_ ?_
      · exact c11_sumOfSeries_p75 x1 x2 kx ih s_3 v_5 x5
      · refine aw_aload_n 0 dX11_sumOfSeries_54 rfl rfl ?_
        refine aw_getf (fg_11_13 (by decide)) ci_11 (by decide) w_730 dX11_sumOfSeries_55 ?_
        refine aw_bipush 20 dX11_sumOfSeries_58 (by decide) ?_
        refine aw_aload_n 0 dX11_sumOfSeries_60 rfl rfl ?_
        refine aw_getf (fg_11_13 (by decide)) ci_11 (by decide) w_730 dX11_sumOfSeries_61 ?_
        refine aw_getf (fg_6_6 (by decide)) ci_6 (by decide) w_560 dX11_sumOfSeries_64 ?_
        refine aw_iconst 1 dX11_sumOfSeries_67 (by decide) ?_
        refine aw_iadd dX11_sumOfSeries_68 ?_
        refine aw_min w_981 w_864 w_159 w_865 (Nat.le_of_ble_eq_true rfl) dX11_sumOfSeries_69 ?_
        refine aw_putI (fs_6_6 (by decide)) ci_6 (by decide) rfl rfl w_560 dX11_sumOfSeries_72 ?_
        refine aw_bndM (fun s_7 => ?_)
        exact c11_sumOfSeries_p75 x1 x2 kx ih s_7 v_5 x5
def F11_sumOfSeries (σ : Mem) (x1 : Int32) (x2 : Int32) : Option (Int64 × Mem) :=
  bnd (sI σ 6 0 0 6 0) fun s_1 => bd (F11_sumOfSeries_L13 x1 x2 fuelK s_1 0 1) fun r_8 s_9 => some (r_8, s_9)
set_option maxRecDepth 20000 in
theorem c11_sumOfSeries {l : Launch} {D : va_G} {ad : Nat → Nat → Nat → Nat} {cid : Nat → Nat → Nat → ClassId} (σ : Mem) (x1 : Int32) (x2 : Int32) : AMF (XC l D ad cid) M11_sumOfSeries 5 eL [.ref (ad 11 0 0), .int x1, .int x2] σ (F11_sumOfSeries σ x1 x2) := by
  refine AM.ofW (by decide +kernel) (Nat.le_of_ble_eq_true rfl) (ls := [(0, .ref (ad 11 0 0)), (1, .int x1), (2, .int x2)]) rfl ?_
  refine aw_entry ?_
  unfold F11_sumOfSeries
  refine aw_lconst 0 dX11_sumOfSeries_0 (by decide) ?_
  refine aw_lstore_n (ls' := [(0, .ref (ad 11 0 0)), (1, .int x1), (2, .int x2), (3, .long 0)]) [1, 2, 3, 0] dX11_sumOfSeries_1 rfl (by decide) rfl ?_
  refine aw_aload_n 0 dX11_sumOfSeries_2 rfl rfl ?_
  refine aw_getf (fg_11_13 (by decide)) ci_11 (by decide) w_730 dX11_sumOfSeries_3 ?_
  refine aw_iconst 0 dX11_sumOfSeries_6 (by decide) ?_
  refine aw_putI (fs_6_6 (by decide)) ci_6 (by decide) rfl rfl w_560 dX11_sumOfSeries_7 ?_
  refine aw_bndM (fun s_1 => ?_)
  refine aw_iconst 1 dX11_sumOfSeries_10 (by decide) ?_
  refine aw_istore (ls' := [(0, .ref (ad 11 0 0)), (1, .int x1), (2, .int x2), (3, .long 0), (5, .int 1)]) [1, 2, 3, 4, 0] dX11_sumOfSeries_11 (by decide) rfl ?_
  refine aw_assocW ?_
  refine c11_sumOfSeries_L13 x1 x2 (fun r_8 s_9 => ?_) fuelK s_1 0 1
  refine aw_lload_n 0 dX11_sumOfSeries_100 rfl rfl ?_
  exact aw_lreturn rfl dX11_sumOfSeries_101
def F11_series (σ : Mem) (x1 : Int32) (x2 : Int32) (x3 : Int32) (x4 : Int32) (x5 : Int32) (x6 : Int32) (x7 : Int32) : Option (Bool × Mem) :=
  (F11_wrongShot σ x1 x2 x3 2 x4 x5).bind fun v_1 => if v_1 = 0 then (if (F11_within x6 1 30) = true then (if (F11_within x7 1 30) = true then (bd (F11_takeShot σ x1 x2 x3 2 x4 x5) fun _ s_4 => bd (F11_sumOfSeries s_4 x6 x7) fun v_5 s_6 => bd (F11_tell s_6 v_5 (Int32.toInt64 (gI s_6 2 0 0 1))) fun _ s_7 => bd (F11_agree s_7) fun v_8 s_9 => some (v_8, s_9)) else (bd (F11_deny σ 5) fun v_10 s_11 => some (v_10, s_11))) else (bd (F11_deny σ 5) fun v_2 s_3 => some (v_2, s_3))) else (bd (F11_deny σ v_1) fun v_12 s_13 => some (v_12, s_13))
set_option maxRecDepth 20000 in
theorem c11_series {l : Launch} {D : va_G} {ad : Nat → Nat → Nat → Nat} {cid : Nat → Nat → Nat → ClassId} (σ : Mem) (x1 : Int32) (x2 : Int32) (x3 : Int32) (x4 : Int32) (x5 : Int32) (x6 : Int32) (x7 : Int32) : AMF (XC l D ad cid) M11_series 6 eB [.ref (ad 11 0 0), .int x1, .int x2, .int x3, .int x4, .int x5, .int x6, .int x7] σ (F11_series σ x1 x2 x3 x4 x5 x6 x7) := by
  refine AM.ofW (by decide +kernel) (Nat.le_of_ble_eq_true rfl) (ls := [(0, .ref (ad 11 0 0)), (1, .int x1), (2, .int x2), (3, .int x3), (4, .int x4), (5, .int x5), (6, .int x6), (7, .int x7)]) rfl ?_
  refine aw_entry ?_
  unfold F11_series
  refine aw_aload_n 0 dX11_series_0 rfl rfl ?_
  refine aw_iload_n 1 dX11_series_1 rfl rfl ?_
  refine aw_iload_n 2 dX11_series_2 rfl rfl ?_
  refine aw_iload_n 3 dX11_series_3 rfl rfl ?_
  refine aw_iconst 2 dX11_series_4 (by decide) ?_
  refine aw_iload 4 dX11_series_5 rfl ?_
  refine aw_iload 5 dX11_series_7 rfl ?_
  refine aw_callVO_I (c11_wrongShot σ x1 x2 x3 2 x4 x5) (io_11 (by decide)) ci_11 (by decide) mk_11_wrongShot w_1113 w_28 w_1111 rfl rfl (Nat.le_of_ble_eq_true rfl) dX11_series_9 (fun v_1 => ?_)
  refine aw_istore (ls' := [(0, .ref (ad 11 0 0)), (1, .int x1), (2, .int x2), (3, .int x3), (4, .int x4), (5, .int x5), (6, .int x6), (7, .int x7), (8, .int v_1)]) [1, 2, 3, 4, 5, 6, 7, 8, 0] dX11_series_12 (by decide) rfl ?_
  refine aw_iload 8 dX11_series_14 rfl ?_
  refine aw_if_eq 26 dX11_series_16 (by decide) ?_ ?_
  · refine aw_iload 6 dX11_series_26 rfl ?_
    refine aw_iconst 1 dX11_series_28 (by decide) ?_
    refine aw_bipush 30 dX11_series_29 (by decide) ?_
    refine aw_callST_B (c11_within σ x6 1 30) (by decide) mk_11_within w_798 w_797 rfl rfl (Nat.le_of_ble_eq_true rfl) dX11_series_31 ?_
    refine aw_bif_eq 48 dX11_series_34 (by decide) ?_ ?_
    · refine aw_aload_n 0 dX11_series_48 rfl rfl ?_
      refine aw_iconst 5 dX11_series_49 (by decide) ?_
      refine aw_callVW_B (c11_deny σ 5) (io_11 (by decide)) ci_11 (by decide) mk_11_deny w_802 w_0 w_800 rfl rfl (Nat.le_of_ble_eq_true rfl) dX11_series_50 (fun v_2 s_3 => ?_)
      exact aw_zreturn (b := v_2) rfl rfl dX11_series_53
    · refine aw_iload 7 dX11_series_37 rfl ?_
      refine aw_iconst 1 dX11_series_39 (by decide) ?_
      refine aw_bipush 30 dX11_series_40 (by decide) ?_
      refine aw_callST_B (c11_within σ x7 1 30) (by decide) mk_11_within w_798 w_797 rfl rfl (Nat.le_of_ble_eq_true rfl) dX11_series_42 ?_
      refine aw_bif_ne 54 dX11_series_45 (by decide) ?_ ?_
      · refine aw_aload_n 0 dX11_series_54 rfl rfl ?_
        refine aw_iload_n 1 dX11_series_55 rfl rfl ?_
        refine aw_iload_n 2 dX11_series_56 rfl rfl ?_
        refine aw_iload_n 3 dX11_series_57 rfl rfl ?_
        refine aw_iconst 2 dX11_series_58 (by decide) ?_
        refine aw_iload 4 dX11_series_59 rfl ?_
        refine aw_iload 5 dX11_series_61 rfl ?_
        refine aw_callVW_U (c11_takeShot σ x1 x2 x3 2 x4 x5) (io_11 (by decide)) ci_11 (by decide) mk_11_takeShot w_1080 w_25 w_1078 rfl rfl (Nat.le_of_ble_eq_true rfl) dX11_series_63 (fun _ s_4 => ?_)
        refine aw_aload_n 0 dX11_series_66 rfl rfl ?_
        refine aw_iload 6 dX11_series_67 rfl ?_
        refine aw_iload 7 dX11_series_69 rfl ?_
        refine aw_callVW_L (c11_sumOfSeries s_4 x6 x7) (io_11 (by decide)) ci_11 (by decide) mk_11_sumOfSeries w_1252 w_35 w_1250 rfl rfl (Nat.le_of_ble_eq_true rfl) dX11_series_71 (fun v_5 s_6 => ?_)
        refine aw_lstore (ls' := [(0, .ref (ad 11 0 0)), (9, .long v_5)]) [1, 0] dX11_series_74 (by decide) rfl ?_
        refine aw_aload_n 0 dX11_series_76 rfl rfl ?_
        refine aw_lload 1 dX11_series_77 rfl ?_
        refine aw_aload_n 0 dX11_series_79 rfl rfl ?_
        refine aw_getf (fg_11_14 (by decide)) ci_11 (by decide) w_731 dX11_series_80 ?_
        refine aw_getf (fg_2_1 (by decide)) ci_2 (by decide) w_619 dX11_series_83 ?_
        refine aw_i2l dX11_series_86 ?_
        refine aw_callVW_U (c11_tell s_6 v_5 (Int32.toInt64 (gI s_6 2 0 0 1))) (io_11 (by decide)) ci_11 (by decide) mk_11_tell w_1174 w_30 w_1172 rfl rfl (Nat.le_of_ble_eq_true rfl) dX11_series_87 (fun _ s_7 => ?_)
        refine aw_aload_n 0 dX11_series_90 rfl rfl ?_
        refine aw_callVW_B (c11_agree s_7 ) (io_11 (by decide)) ci_11 (by decide) mk_11_agree w_813 w_1 w_811 rfl rfl (Nat.le_of_ble_eq_true rfl) dX11_series_91 (fun v_8 s_9 => ?_)
        exact aw_zreturn (b := v_8) rfl rfl dX11_series_94
      · refine aw_aload_n 0 dX11_series_48 rfl rfl ?_
        refine aw_iconst 5 dX11_series_49 (by decide) ?_
        refine aw_callVW_B (c11_deny σ 5) (io_11 (by decide)) ci_11 (by decide) mk_11_deny w_802 w_0 w_800 rfl rfl (Nat.le_of_ble_eq_true rfl) dX11_series_50 (fun v_10 s_11 => ?_)
        exact aw_zreturn (b := v_10) rfl rfl dX11_series_53
  · refine aw_aload_n 0 dX11_series_19 rfl rfl ?_
    refine aw_iload 8 dX11_series_20 rfl ?_
    refine aw_callVW_B (c11_deny σ v_1) (io_11 (by decide)) ci_11 (by decide) mk_11_deny w_802 w_0 w_800 rfl rfl (Nat.le_of_ble_eq_true rfl) dX11_series_22 (fun v_12 s_13 => ?_)
    exact aw_zreturn (b := v_12) rfl rfl dX11_series_25
def F11_wipeEvery_L62 (x1 : Int32) (x2 : Int32) (x3 : Int32) (x4 : Int32) (x5 : Int32) : Nat → Mem → Int32 → Option ((Unit) × Mem)
  | 0 => fun _ _ => none
  | n + 1 => fun σ x7 =>
    if 9 < x7 then (some ((), σ)) else (bd (F11_takeShot σ x1 x2 x3 2 0 0) fun _ s_5 => bd (F11_sumOfSeries s_5 x4 x7) fun v_6 s_7 => if x7 = 0 then none else bnd (Int32.toInt64 (x4 / x7)) fun v_8 => bd (F1_offer s_7 x7 (((16 : Int64) * v_6) - ((v_8 * (Int32.toInt64 x5)) * (Int32.toInt64 (gI s_7 2 0 0 1)))) ((16 : Int64) * (Int32.toInt64 (gI s_7 2 0 0 1)))) fun _ s_9 => (F11_wipeEvery_L62 x1 x2 x3 x4 x5 n) s_9 (x7 + 1))
set_option maxRecDepth 20000 in
theorem c11_wipeEvery_L62 {l : Launch} {D : va_G} {ad : Nat → Nat → Nat → Nat} {cid : Nat → Nat → Nat → ClassId} {α : Type} {emb : α → Option Value} (x1 : Int32) (x2 : Int32) (x3 : Int32) (x4 : Int32) (x5 : Int32) {G : Unit → Mem → Option (α × Mem)} (kx : ∀ r σ, AW (XC l D ad cid) M11_wipeEvery 6 emb [(0, .ref (ad 11 0 0))] 146 [] σ (G r σ)) : ∀ (n : Nat) (σ : Mem) (x7 : Int32), AW (XC l D ad cid) M11_wipeEvery 6 emb [(0, .ref (ad 11 0 0)), (1, .int x1), (2, .int x2), (3, .int x3), (4, .int x4), (5, .int x5), (7, .int x7)] 62 [] σ (bd (F11_wipeEvery_L62 x1 x2 x3 x4 x5 n σ x7) G) := by
  intro n
  induction n with
  | zero => intros; exact aw_none
  | succ n ih =>
    intro σ x7
    refine aw_bdB ?_
    rw [F11_wipeEvery_L62.eq_2]
    refine aw_iload 6 dX11_wipeEvery_62 rfl ?_
    refine aw_bipush 9 dX11_wipeEvery_64 (by decide) ?_
    refine aw_icmp_gt 146 dX11_wipeEvery_66 (by decide) ?_ ?_
    · refine aw_ls (ls' := [(0, .ref (ad 11 0 0))]) [0] rfl ?_
      exact kx () σ
    · refine aw_aload_n 0 dX11_wipeEvery_69 rfl rfl ?_
      refine aw_iload_n 1 dX11_wipeEvery_70 rfl rfl ?_
      refine aw_iload_n 2 dX11_wipeEvery_71 rfl rfl ?_
      refine aw_iload_n 3 dX11_wipeEvery_72 rfl rfl ?_
      refine aw_iconst 2 dX11_wipeEvery_73 (by decide) ?_
      refine aw_iconst 0 dX11_wipeEvery_74 (by decide) ?_
      refine aw_iconst 0 dX11_wipeEvery_75 (by decide) ?_
      refine aw_callVW_U (c11_takeShot σ x1 x2 x3 2 0 0) (io_11 (by decide)) ci_11 (by decide) mk_11_takeShot w_1080 w_25 w_1078 rfl rfl (Nat.le_of_ble_eq_true rfl) dX11_wipeEvery_76 (fun _ s_5 => ?_)
      refine aw_aload_n 0 dX11_wipeEvery_79 rfl rfl ?_
      refine aw_iload 4 dX11_wipeEvery_80 rfl ?_
      refine aw_iload 6 dX11_wipeEvery_82 rfl ?_
      refine aw_callVW_L (c11_sumOfSeries s_5 x4 x7) (io_11 (by decide)) ci_11 (by decide) mk_11_sumOfSeries w_1252 w_35 w_1250 rfl rfl (Nat.le_of_ble_eq_true rfl) dX11_wipeEvery_84 (fun v_6 s_7 => ?_)
      refine aw_lstore (ls' := [(0, .ref (ad 11 0 0)), (1, .int x1), (2, .int x2), (3, .int x3), (4, .int x4), (5, .int x5), (7, .int x7), (8, .long v_6)]) [1, 2, 3, 4, 5, 6, 7, 0] dX11_wipeEvery_87 (by decide) rfl ?_
      refine aw_iload 4 dX11_wipeEvery_89 rfl ?_
      refine aw_iload 6 dX11_wipeEvery_91 rfl ?_
      refine aw_idiv dX11_wipeEvery_93 ?_
      refine aw_i2l dX11_wipeEvery_94 ?_
      refine aw_bnd_long (fun v_8 => ?_)
      refine aw_lstore (ls' := [(0, .ref (ad 11 0 0)), (1, .int x1), (2, .int x2), (3, .int x3), (4, .int x4), (5, .int x5), (7, .int x7), (8, .long v_6), (10, .long v_8)]) [1, 2, 3, 4, 5, 6, 7, 8, 0] dX11_wipeEvery_95 (by decide) rfl ?_
      refine aw_aload_n 0 dX11_wipeEvery_97 rfl rfl ?_
      refine aw_getf (fg_11_17 (by decide)) ci_11 (by decide) w_734 dX11_wipeEvery_98 ?_
      refine aw_iload 6 dX11_wipeEvery_101 rfl ?_
      refine aw_ldc2 w_1258 dX11_wipeEvery_103 ?_
      refine aw_lload 7 dX11_wipeEvery_106 rfl ?_
      refine aw_lmul dX11_wipeEvery_108 ?_
      refine aw_lload 8 dX11_wipeEvery_109 rfl ?_
      refine aw_iload 5 dX11_wipeEvery_111 rfl ?_
      refine aw_i2l dX11_wipeEvery_113 ?_
      refine aw_lmul dX11_wipeEvery_114 ?_
      refine aw_aload_n 0 dX11_wipeEvery_115 rfl rfl ?_
      refine aw_getf (fg_11_14 (by decide)) ci_11 (by decide) w_731 dX11_wipeEvery_116 ?_
      refine aw_getf (fg_2_1 (by decide)) ci_2 (by decide) w_619 dX11_wipeEvery_119 ?_
      refine aw_i2l dX11_wipeEvery_122 ?_
      refine aw_lmul dX11_wipeEvery_123 ?_
      refine aw_lsub dX11_wipeEvery_124 ?_
      refine aw_ldc2 w_1258 dX11_wipeEvery_125 ?_
      refine aw_aload_n 0 dX11_wipeEvery_128 rfl rfl ?_
      refine aw_getf (fg_11_14 (by decide)) ci_11 (by decide) w_731 dX11_wipeEvery_129 ?_
      refine aw_getf (fg_2_1 (by decide)) ci_2 (by decide) w_619 dX11_wipeEvery_132 ?_
      refine aw_i2l dX11_wipeEvery_135 ?_
      refine aw_lmul dX11_wipeEvery_136 ?_
      refine aw_callVW_U (c1_offer s_7 x7 (((16 : Int64) * v_6) - ((v_8 * (Int32.toInt64 x5)) * (Int32.toInt64 (gI s_7 2 0 0 1)))) ((16 : Int64) * (Int32.toInt64 (gI s_7 2 0 0 1)))) (io_1 (by decide)) ci_1 (by decide) mk_1_offer w_1207 w_1208 w_1229 rfl rfl (Nat.le_of_ble_eq_true rfl) dX11_wipeEvery_137 (fun _ s_9 => ?_)
      refine aw_iinc (ls' := [(0, .ref (ad 11 0 0)), (1, .int x1), (2, .int x2), (3, .int x3), (4, .int x4), (5, .int x5), (7, .int (x7 + 1))]) (x7 + 1) 6 [1, 2, 3, 4, 5, 6, 0] dX11_wipeEvery_140 rfl (by rfl) (by decide) rfl ?_
      refine aw_goto 62 dX11_wipeEvery_143 (by decide) ?_
      exact ih s_9 (x7 + 1)
def F11_wipeEvery (σ : Mem) (x1 : Int32) (x2 : Int32) (x3 : Int32) (x4 : Int32) (x5 : Int32) : Option (Int32 × Mem) :=
  (F11_wrongShot σ x1 x2 x3 2 0 0).bind fun v_1 => if v_1 = 0 then (if (F11_within x4 1 30) = true then (if (F11_within x5 0 99) = true then (bd (F1_begin σ) fun _ s_4 => bd (F11_wipeEvery_L62 x1 x2 x3 x4 x5 fuelK s_4 1) fun r_10 s_11 => bd (F11_answer s_11 (gI s_11 1 0 0 1)) fun v_12 s_13 => some (v_12, s_13)) else (bd (F11_refuse σ 5) fun v_14 s_15 => some (v_14, s_15))) else (bd (F11_refuse σ 5) fun v_2 s_3 => some (v_2, s_3))) else (bd (F11_refuse σ v_1) fun v_16 s_17 => some (v_16, s_17))
set_option maxRecDepth 20000 in
theorem c11_wipeEvery {l : Launch} {D : va_G} {ad : Nat → Nat → Nat → Nat} {cid : Nat → Nat → Nat → ClassId} (σ : Mem) (x1 : Int32) (x2 : Int32) (x3 : Int32) (x4 : Int32) (x5 : Int32) : AMF (XC l D ad cid) M11_wipeEvery 6 eI [.ref (ad 11 0 0), .int x1, .int x2, .int x3, .int x4, .int x5] σ (F11_wipeEvery σ x1 x2 x3 x4 x5) := by
  refine AM.ofW (by decide +kernel) (Nat.le_of_ble_eq_true rfl) (ls := [(0, .ref (ad 11 0 0)), (1, .int x1), (2, .int x2), (3, .int x3), (4, .int x4), (5, .int x5)]) rfl ?_
  refine aw_entry ?_
  unfold F11_wipeEvery
  refine aw_aload_n 0 dX11_wipeEvery_0 rfl rfl ?_
  refine aw_iload_n 1 dX11_wipeEvery_1 rfl rfl ?_
  refine aw_iload_n 2 dX11_wipeEvery_2 rfl rfl ?_
  refine aw_iload_n 3 dX11_wipeEvery_3 rfl rfl ?_
  refine aw_iconst 2 dX11_wipeEvery_4 (by decide) ?_
  refine aw_iconst 0 dX11_wipeEvery_5 (by decide) ?_
  refine aw_iconst 0 dX11_wipeEvery_6 (by decide) ?_
  refine aw_callVO_I (c11_wrongShot σ x1 x2 x3 2 0 0) (io_11 (by decide)) ci_11 (by decide) mk_11_wrongShot w_1113 w_28 w_1111 rfl rfl (Nat.le_of_ble_eq_true rfl) dX11_wipeEvery_7 (fun v_1 => ?_)
  refine aw_istore (ls' := [(0, .ref (ad 11 0 0)), (1, .int x1), (2, .int x2), (3, .int x3), (4, .int x4), (5, .int x5), (6, .int v_1)]) [1, 2, 3, 4, 5, 6, 0] dX11_wipeEvery_10 (by decide) rfl ?_
  refine aw_iload 6 dX11_wipeEvery_12 rfl ?_
  refine aw_if_eq 24 dX11_wipeEvery_14 (by decide) ?_ ?_
  · refine aw_iload 4 dX11_wipeEvery_24 rfl ?_
    refine aw_iconst 1 dX11_wipeEvery_26 (by decide) ?_
    refine aw_bipush 30 dX11_wipeEvery_27 (by decide) ?_
    refine aw_callST_B (c11_within σ x4 1 30) (by decide) mk_11_within w_798 w_797 rfl rfl (Nat.le_of_ble_eq_true rfl) dX11_wipeEvery_29 ?_
    refine aw_bif_eq 46 dX11_wipeEvery_32 (by decide) ?_ ?_
    · refine aw_aload_n 0 dX11_wipeEvery_46 rfl rfl ?_
      refine aw_iconst 5 dX11_wipeEvery_47 (by decide) ?_
      refine aw_callVW_I (c11_refuse σ 5) (io_11 (by decide)) ci_11 (by decide) mk_11_refuse w_838 w_3 w_836 rfl rfl (Nat.le_of_ble_eq_true rfl) dX11_wipeEvery_48 (fun v_2 s_3 => ?_)
      exact aw_ireturn rfl dX11_wipeEvery_51
    · refine aw_iload 5 dX11_wipeEvery_35 rfl ?_
      refine aw_iconst 0 dX11_wipeEvery_37 (by decide) ?_
      refine aw_bipush 99 dX11_wipeEvery_38 (by decide) ?_
      refine aw_callST_B (c11_within σ x5 0 99) (by decide) mk_11_within w_798 w_797 rfl rfl (Nat.le_of_ble_eq_true rfl) dX11_wipeEvery_40 ?_
      refine aw_bif_ne 52 dX11_wipeEvery_43 (by decide) ?_ ?_
      · refine aw_aload_n 0 dX11_wipeEvery_52 rfl rfl ?_
        refine aw_getf (fg_11_17 (by decide)) ci_11 (by decide) w_734 dX11_wipeEvery_53 ?_
        refine aw_callVW_U (c1_begin σ ) (io_1 (by decide)) ci_1 (by decide) mk_1_begin w_1195 w_1196 w_1194 rfl rfl (Nat.le_of_ble_eq_true rfl) dX11_wipeEvery_56 (fun _ s_4 => ?_)
        refine aw_iconst 1 dX11_wipeEvery_59 (by decide) ?_
        refine aw_istore (ls' := [(0, .ref (ad 11 0 0)), (1, .int x1), (2, .int x2), (3, .int x3), (4, .int x4), (5, .int x5), (7, .int 1)]) [1, 2, 3, 4, 5, 6, 0] dX11_wipeEvery_60 (by decide) rfl ?_
        refine aw_assocW ?_
        refine c11_wipeEvery_L62 x1 x2 x3 x4 x5 (fun r_10 s_11 => ?_) fuelK s_4 1
        refine aw_aload_n 0 dX11_wipeEvery_146 rfl rfl ?_
        refine aw_aload_n 0 dX11_wipeEvery_147 rfl rfl ?_
        refine aw_getf (fg_11_17 (by decide)) ci_11 (by decide) w_734 dX11_wipeEvery_148 ?_
        refine aw_getf (fg_1_1 (by decide)) ci_1 (by decide) w_651 dX11_wipeEvery_151 ?_
        refine aw_callVW_I (c11_answer s_11 (gI s_11 1 0 0 1)) (io_11 (by decide)) ci_11 (by decide) mk_11_answer w_975 w_15 w_973 rfl rfl (Nat.le_of_ble_eq_true rfl) dX11_wipeEvery_154 (fun v_12 s_13 => ?_)
        exact aw_ireturn rfl dX11_wipeEvery_157
      · refine aw_aload_n 0 dX11_wipeEvery_46 rfl rfl ?_
        refine aw_iconst 5 dX11_wipeEvery_47 (by decide) ?_
        refine aw_callVW_I (c11_refuse σ 5) (io_11 (by decide)) ci_11 (by decide) mk_11_refuse w_838 w_3 w_836 rfl rfl (Nat.le_of_ble_eq_true rfl) dX11_wipeEvery_48 (fun v_14 s_15 => ?_)
        exact aw_ireturn rfl dX11_wipeEvery_51
  · refine aw_aload_n 0 dX11_wipeEvery_17 rfl rfl ?_
    refine aw_iload 6 dX11_wipeEvery_18 rfl ?_
    refine aw_callVW_I (c11_refuse σ v_1) (io_11 (by decide)) ci_11 (by decide) mk_11_refuse w_838 w_3 w_836 rfl rfl (Nat.le_of_ble_eq_true rfl) dX11_wipeEvery_20 (fun v_16 s_17 => ?_)
    exact aw_ireturn rfl dX11_wipeEvery_23
def F2_waysWithOneMore_L5 (σ : Mem) (t0 : Nat) (x1 : Int32) : Nat → Int64 → Int32 → Option (Int64)
  | 0 => fun _ _ => none
  | n + 1 => fun y2 x4 =>
    if 20 < x4 then (some y2) else (if x1 < x4 then (some y2) else ((ald 101 (gL σ 2 t0 2) (x1 - x4)).bind fun v_1 => (ald 21 (gI σ 2 t0 1) x4).bind fun v_2 => bnd (y2 + (v_1 * (Int32.toInt64 v_2))) fun v_3 => (F2_waysWithOneMore_L5 σ t0 x1 n) v_3 (x4 + 1)))
set_option maxRecDepth 20000 in
theorem c2_waysWithOneMore_L5 {l : Launch} {D : va_G} {ad : Nat → Nat → Nat → Nat} {cid : Nat → Nat → Nat → ClassId} {α : Type} {emb : α → Option Value} (σ : Mem) (t0 : Nat) (ht0 : t0 < 5) (x1 : Int32) {G : Int64 → Option (α × Mem)} (kx : ∀ r, AW (XC l D ad cid) M2_waysWithOneMore 0 emb [(2, .long r)] 45 [] σ (G r)) : ∀ (n : Nat) (y2 : Int64) (x4 : Int32), AW (XC l D ad cid) M2_waysWithOneMore 0 emb [(0, .ref (ad 2 t0 0)), (1, .int x1), (2, .long y2), (4, .int x4)] 5 [] σ ((F2_waysWithOneMore_L5 σ t0 x1 n y2 x4).bind G) := by
  intro n
  induction n with
  | zero => intros; exact aw_none
  | succ n ih =>
    intro y2 x4
    rw [F2_waysWithOneMore_L5.eq_2]
    refine aw_iload 3 dX2_waysWithOneMore_5 rfl ?_
    refine aw_bipush 20 dX2_waysWithOneMore_7 (by decide) ?_
    refine aw_icmp_gt 45 dX2_waysWithOneMore_9 (by decide) ?_ ?_
    · refine aw_ls (ls' := [(2, .long y2)]) [2] rfl ?_
      exact kx y2
    · refine aw_iload 3 dX2_waysWithOneMore_12 rfl ?_
      refine aw_iload_n 1 dX2_waysWithOneMore_14 rfl rfl ?_
      refine aw_icmp_gt 45 dX2_waysWithOneMore_15 (by decide) ?_ ?_
      · refine aw_ls (ls' := [(2, .long y2)]) [2] rfl ?_
        exact kx y2
      · refine aw_lload_n 2 dX2_waysWithOneMore_18 rfl rfl ?_
        refine aw_aload_n 0 dX2_waysWithOneMore_19 rfl rfl ?_
        refine aw_getf (fg_2_2 (by omega)) ci_2 (by decide) w_620 dX2_waysWithOneMore_20 ?_
        refine aw_iload_n 1 dX2_waysWithOneMore_23 rfl rfl ?_
        refine aw_iload 3 dX2_waysWithOneMore_24 rfl ?_
        refine aw_isub dX2_waysWithOneMore_26 ?_
        refine aw_laload (ar_2_2 (by omega)) dX2_waysWithOneMore_27 (fun v_1 => ?_)
        refine aw_aload_n 0 dX2_waysWithOneMore_28 rfl rfl ?_
        refine aw_getf (fg_2_0 (by omega)) ci_2 (by decide) w_617 dX2_waysWithOneMore_29 ?_
        refine aw_iload 3 dX2_waysWithOneMore_32 rfl ?_
        refine aw_iaload (ar_2_1 (by omega)) dX2_waysWithOneMore_34 (fun v_2 => ?_)
        refine aw_i2l dX2_waysWithOneMore_35 ?_
        refine aw_lmul dX2_waysWithOneMore_36 ?_
        refine aw_ladd dX2_waysWithOneMore_37 ?_
        refine aw_bnd_long (fun v_3 => ?_)
        refine aw_lstore_n (ls' := [(0, .ref (ad 2 t0 0)), (1, .int x1), (2, .long v_3), (4, .int x4)]) [1, 2, 0, 3] dX2_waysWithOneMore_38 rfl (by decide) rfl ?_
        refine aw_iinc (ls' := [(0, .ref (ad 2 t0 0)), (1, .int x1), (2, .long v_3), (4, .int (x4 + 1))]) (x4 + 1) 3 [1, 2, 3, 0] dX2_waysWithOneMore_39 rfl (by rfl) (by decide) rfl ?_
        refine aw_goto 5 dX2_waysWithOneMore_42 (by decide) ?_
        exact ih v_3 (x4 + 1)
def F2_waysWithOneMore (σ : Mem) (t0 : Nat) (x1 : Int32) : Option Int64 :=
  (F2_waysWithOneMore_L5 σ t0 x1 fuelK 0 0).bind fun r_4 => some r_4
set_option maxRecDepth 20000 in
theorem c2_waysWithOneMore {l : Launch} {D : va_G} {ad : Nat → Nat → Nat → Nat} {cid : Nat → Nat → Nat → ClassId} (σ : Mem) (t0 : Nat) (ht0 : t0 < 5) (x1 : Int32) : AMF (XC l D ad cid) M2_waysWithOneMore 0 eL [.ref (ad 2 t0 0), .int x1] σ (oM σ (F2_waysWithOneMore σ t0 x1)) := by
  refine AM.ofW (by decide +kernel) (Nat.le_of_ble_eq_true rfl) (ls := [(0, .ref (ad 2 t0 0)), (1, .int x1)]) rfl ?_
  refine aw_entryO ?_
  unfold F2_waysWithOneMore
  refine aw_lconst 0 dX2_waysWithOneMore_0 (by decide) ?_
  refine aw_lstore_n (ls' := [(0, .ref (ad 2 t0 0)), (1, .int x1), (2, .long 0)]) [1, 2, 0] dX2_waysWithOneMore_1 rfl (by decide) rfl ?_
  refine aw_iconst 0 dX2_waysWithOneMore_2 (by decide) ?_
  refine aw_istore (ls' := [(0, .ref (ad 2 t0 0)), (1, .int x1), (2, .long 0), (4, .int 0)]) [1, 2, 3, 0] dX2_waysWithOneMore_3 (by decide) rfl ?_
  refine aw_assoc ?_
  refine c2_waysWithOneMore_L5 σ t0 (by omega) x1 (fun r_4 => ?_) fuelK 0 0
  refine aw_lload_n 0 dX2_waysWithOneMore_45 rfl rfl ?_
  exact aw_lreturn rfl dX2_waysWithOneMore_46
def F2_addUp_L25 (t0 : Nat) (x1 : Int32) (x2 : Int32) : Nat → Mem → Int32 → Option ((Unit) × Mem)
  | 0 => fun _ _ => none
  | n + 1 => fun σ x3 =>
    if x3 < 0 then (some ((), σ)) else ((F2_waysWithOneMore σ t0 x3).bind fun v_3 => chk 101 x3 <| bnd (sL σ 2 t0 2 (Int32.toNatClampNeg x3) v_3) fun s_4 => (F2_addUp_L25 t0 x1 x2 n) s_4 (x3 + (-1)))
set_option maxRecDepth 20000 in
theorem c2_addUp_L25 {l : Launch} {D : va_G} {ad : Nat → Nat → Nat → Nat} {cid : Nat → Nat → Nat → ClassId} {α : Type} {emb : α → Option Value} (t0 : Nat) (ht0 : t0 < 5) (x1 : Int32) (x2 : Int32) {G : Unit → Mem → Option (α × Mem)} (kx : ∀ r σ, AW (XC l D ad cid) M2_addUp 1 emb [(0, .ref (ad 2 t0 0)), (1, .int x1), (2, .int x2)] 46 [] σ (G r σ)) : ∀ (n : Nat) (σ : Mem) (x3 : Int32), AW (XC l D ad cid) M2_addUp 1 emb [(0, .ref (ad 2 t0 0)), (1, .int x1), (2, .int x2), (3, .int x3)] 25 [] σ (bd (F2_addUp_L25 t0 x1 x2 n σ x3) G) := by
  intro n
  induction n with
  | zero => intros; exact aw_none
  | succ n ih =>
    intro σ x3
    refine aw_bdB ?_
    rw [F2_addUp_L25.eq_2]
    refine aw_iload_n 3 dX2_addUp_25 rfl rfl ?_
    refine aw_if_lt 46 dX2_addUp_26 (by decide) ?_ ?_
    · refine aw_ls (ls' := [(0, .ref (ad 2 t0 0)), (1, .int x1), (2, .int x2)]) [0, 1, 2] rfl ?_
      exact kx () σ
    · refine aw_aload_n 0 dX2_addUp_29 rfl rfl ?_
      refine aw_getf (fg_2_2 (by omega)) ci_2 (by decide) w_620 dX2_addUp_30 ?_
      refine aw_iload_n 3 dX2_addUp_33 rfl rfl ?_
      refine aw_aload_n 0 dX2_addUp_34 rfl rfl ?_
      refine aw_iload_n 3 dX2_addUp_35 rfl rfl ?_
      refine aw_callVO_L (c2_waysWithOneMore σ t0 (by omega) x3) (io_2 (by omega)) ci_2 (by decide) mk_2_waysWithOneMore w_1274 w_37 w_1272 rfl rfl (Nat.le_of_ble_eq_true rfl) dX2_addUp_36 (fun v_3 => ?_)
      refine aw_lastore (ar_2_2 (by omega)) dX2_addUp_39 ?_
      refine aw_bndM (fun s_4 => ?_)
      refine aw_iinc (ls' := [(0, .ref (ad 2 t0 0)), (1, .int x1), (2, .int x2), (3, .int (x3 + (-1)))]) (x3 + (-1)) 3 [1, 2, 3, 0] dX2_addUp_40 rfl (by rfl) (by decide) rfl ?_
      refine aw_goto 25 dX2_addUp_43 (by decide) ?_
      exact ih s_4 (x3 + (-1))
def F2_addUp_L17 (t0 : Nat) (x1 : Int32) : Nat → Mem → Int32 → Option ((Unit) × Mem)
  | 0 => fun _ _ => none
  | n + 1 => fun σ x2 =>
    if x1 ≤ x2 then (some ((), σ)) else (bd (F2_addUp_L25 t0 x1 x2 fuelK σ 100) fun r_5 s_6 => (F2_addUp_L17 t0 x1 n) s_6 (x2 + 1))
set_option maxRecDepth 20000 in
theorem c2_addUp_L17 {l : Launch} {D : va_G} {ad : Nat → Nat → Nat → Nat} {cid : Nat → Nat → Nat → ClassId} {α : Type} {emb : α → Option Value} (t0 : Nat) (ht0 : t0 < 5) (x1 : Int32) {G : Unit → Mem → Option (α × Mem)} (kx : ∀ r σ, AW (XC l D ad cid) M2_addUp 1 emb [] 52 [] σ (G r σ)) : ∀ (n : Nat) (σ : Mem) (x2 : Int32), AW (XC l D ad cid) M2_addUp 1 emb [(0, .ref (ad 2 t0 0)), (1, .int x1), (2, .int x2)] 17 [] σ (bd (F2_addUp_L17 t0 x1 n σ x2) G) := by
  intro n
  induction n with
  | zero => intros; exact aw_none
  | succ n ih =>
    intro σ x2
    refine aw_bdB ?_
    rw [F2_addUp_L17.eq_2]
    refine aw_iload_n 2 dX2_addUp_17 rfl rfl ?_
    refine aw_iload_n 1 dX2_addUp_18 rfl rfl ?_
    refine aw_icmp_ge 52 dX2_addUp_19 (by decide) ?_ ?_
    · refine aw_ls (ls' := []) [] rfl ?_
      exact kx () σ
    · refine aw_bipush 100 dX2_addUp_22 (by decide) ?_
      refine aw_istore_n (ls' := [(0, .ref (ad 2 t0 0)), (1, .int x1), (2, .int x2), (3, .int 100)]) [1, 2, 3, 0] dX2_addUp_24 rfl (by decide) rfl ?_
      refine aw_assocW ?_
      refine c2_addUp_L25 t0 (by omega) x1 x2 (fun r_5 s_6 => ?_) fuelK σ 100
      refine aw_iinc (ls' := [(0, .ref (ad 2 t0 0)), (1, .int x1), (2, .int (x2 + 1))]) (x2 + 1) 2 [1, 2, 0] dX2_addUp_46 rfl (by rfl) (by decide) rfl ?_
      refine aw_goto 17 dX2_addUp_49 (by decide) ?_
      exact ih s_6 (x2 + 1)
def F2_addUp (σ : Mem) (t0 : Nat) (x1 : Int32) : Option (Unit × Mem) :=
  bd (F20_fillL σ 2 t0 2 101 0) fun _ s_1 => chk 101 0 <| bnd (sL s_1 2 t0 2 (Int32.toNatClampNeg 0) 1) fun s_2 => bd (F2_addUp_L17 t0 x1 fuelK s_2 0) fun r_7 s_8 => some ((), s_8)
set_option maxRecDepth 20000 in
theorem c2_addUp {l : Launch} {D : va_G} {ad : Nat → Nat → Nat → Nat} {cid : Nat → Nat → Nat → ClassId} (σ : Mem) (t0 : Nat) (ht0 : t0 < 5) (x1 : Int32) : AMF (XC l D ad cid) M2_addUp 1 eU [.ref (ad 2 t0 0), .int x1] σ (F2_addUp σ t0 x1) := by
  refine AM.ofW (by decide +kernel) (Nat.le_of_ble_eq_true rfl) (ls := [(0, .ref (ad 2 t0 0)), (1, .int x1)]) rfl ?_
  refine aw_entry ?_
  unfold F2_addUp
  refine aw_aload_n 0 dX2_addUp_0 rfl rfl ?_
  refine aw_getf (fg_2_2 (by omega)) ci_2 (by decide) w_620 dX2_addUp_1 ?_
  refine aw_lconst 0 dX2_addUp_4 (by decide) ?_
  refine aw_callSW_U (c20_fillL σ 2 t0 2 101 (ar_2_2 (by omega)) 0) (by decide) mk_20_fillL w_809 w_1271 rfl rfl (Nat.le_of_ble_eq_true rfl) dX2_addUp_5 (fun _ s_1 => ?_)
  refine aw_aload_n 0 dX2_addUp_8 rfl rfl ?_
  refine aw_getf (fg_2_2 (by omega)) ci_2 (by decide) w_620 dX2_addUp_9 ?_
  refine aw_iconst 0 dX2_addUp_12 (by decide) ?_
  refine aw_lconst 1 dX2_addUp_13 (by decide) ?_
  refine aw_lastore (ar_2_2 (by omega)) dX2_addUp_14 ?_
  refine aw_bndM (fun s_2 => ?_)
  refine aw_iconst 0 dX2_addUp_15 (by decide) ?_
  refine aw_istore_n (ls' := [(0, .ref (ad 2 t0 0)), (1, .int x1), (2, .int 0)]) [1, 2, 0] dX2_addUp_16 rfl (by decide) rfl ?_
  refine aw_assocW ?_
  refine c2_addUp_L17 t0 (by omega) x1 (fun r_7 s_8 => ?_) fuelK s_2 0
  exact aw_return rfl dX2_addUp_52
