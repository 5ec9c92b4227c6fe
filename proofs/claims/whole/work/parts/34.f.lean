def F11_setRival (σ : Mem) (x1 : Int32) (x2 : Int32) (x3 : Int32) (x4 : Int32) : Option (Unit × Mem) :=
  gd 5 (gR σ 11 0 0 5) fun t_1 => (ald 6 (gI σ 9 t_1 9) x2).bind fun v_2 => bd (F11_takeShot σ x2 x3 v_2 2 0 0) fun _ s_3 => bnd (sI s_3 6 0 0 6 0) fun s_4 => (ald 4 id x1).bind fun t_5 => gd 5 (gR s_4 11 0 0 5) fun t_6 => bd (F2_reckon s_4 (1 + t_5) t_6 0) fun _ s_7 => (ald 4 id x1).bind fun t_8 => bd (F2_addUp s_7 (1 + t_8) x4) fun _ s_9 => some ((), s_9)
set_option maxRecDepth 20000 in
theorem c11_setRival {l : Launch} {D : va_G} {ad : Nat → Nat → Nat → Nat} {cid : Nat → Nat → Nat → ClassId} (σ : Mem) (x1 : Int32) (x2 : Int32) (x3 : Int32) (x4 : Int32) : AMF (XC l D ad cid) M11_setRival 5 eU [.ref (ad 11 0 0), .int x1, .int x2, .int x3, .int x4] σ (F11_setRival σ x1 x2 x3 x4) := by
  refine AM.ofW (by decide +kernel) (Nat.le_of_ble_eq_true rfl) (ls := [(0, .ref (ad 11 0 0)), (1, .int x1), (2, .int x2), (3, .int x3), (4, .int x4)]) rfl ?_
  refine aw_entry ?_
  unfold F11_setRival
  refine aw_aload_n 0 dX11_setRival_0 rfl rfl ?_
  refine aw_iload_n 2 dX11_setRival_1 rfl rfl ?_
  refine aw_iload_n 3 dX11_setRival_2 rfl rfl ?_
  refine aw_aload_n 0 dX11_setRival_3 rfl rfl ?_
  refine aw_getf (fg_11_5 (by decide)) ci_11 (by decide) w_722 dX11_setRival_4 ?_
  refine aw_gd (n := 5) (fun t_1 ht_1 => ?_)
  refine aw_getf (fg_9_15 (by omega)) ci_9 (by decide) w_357 dX11_setRival_7 ?_
  refine aw_iload_n 2 dX11_setRival_10 rfl rfl ?_
  refine aw_iaload (ar_9_9 (by omega)) dX11_setRival_11 (fun v_2 => ?_)
  refine aw_iconst 2 dX11_setRival_12 (by decide) ?_
  refine aw_iconst 0 dX11_setRival_13 (by decide) ?_
  refine aw_iconst 0 dX11_setRival_14 (by decide) ?_
  refine aw_callVW_U (c11_takeShot σ x2 x3 v_2 2 0 0) (io_11 (by decide)) ci_11 (by decide) mk_11_takeShot w_1080 w_25 w_1078 rfl rfl (Nat.le_of_ble_eq_true rfl) dX11_setRival_15 (fun _ s_3 => ?_)
  refine aw_aload_n 0 dX11_setRival_18 rfl rfl ?_
  refine aw_getf (fg_11_13 (by decide)) ci_11 (by decide) w_730 dX11_setRival_19 ?_
  refine aw_iconst 0 dX11_setRival_22 (by decide) ?_
  refine aw_putI (fs_6_6 (by decide)) ci_6 (by decide) rfl rfl w_560 dX11_setRival_23 ?_
  refine aw_bndM (fun s_4 => ?_)
  refine aw_aload_n 0 dX11_setRival_26 rfl rfl ?_
  refine aw_getf (fg_11_15 (by decide)) ci_11 (by decide) w_732 dX11_setRival_27 ?_
  refine aw_iload_n 1 dX11_setRival_30 rfl rfl ?_
  refine aw_aaload (ar_11_3 (by decide)) dX11_setRival_31 (fun t_5 ht_5 => ?_)
  refine aw_aload_n 0 dX11_setRival_32 rfl rfl ?_
  refine aw_getf (fg_11_5 (by decide)) ci_11 (by decide) w_722 dX11_setRival_33 ?_
  refine aw_gd (n := 5) (fun t_6 ht_6 => ?_)
  refine aw_aload_n 0 dX11_setRival_36 rfl rfl ?_
  refine aw_getf (fg_11_13 (by decide)) ci_11 (by decide) w_730 dX11_setRival_37 ?_
  refine aw_callVW_U (c2_reckon s_4 (1 + t_5) (by omega) t_6 (by omega) 0 (by decide)) (io_2 (by omega)) ci_2 (by decide) mk_2_reckon w_1154 w_1155 w_1153 rfl rfl (Nat.le_of_ble_eq_true rfl) dX11_setRival_40 (fun _ s_7 => ?_)
  refine aw_aload_n 0 dX11_setRival_43 rfl rfl ?_
  refine aw_getf (fg_11_15 (by decide)) ci_11 (by decide) w_732 dX11_setRival_44 ?_
  refine aw_iload_n 1 dX11_setRival_47 rfl rfl ?_
  refine aw_aaload (ar_11_3 (by decide)) dX11_setRival_48 (fun t_8 ht_8 => ?_)
  refine aw_iload 4 dX11_setRival_49 rfl ?_
  refine aw_callVW_U (c2_addUp s_7 (1 + t_8) (by omega) x4) (io_2 (by omega)) ci_2 (by decide) mk_2_addUp w_1268 w_1269 w_1267 rfl rfl (Nat.le_of_ble_eq_true rfl) dX11_setRival_51 (fun _ s_9 => ?_)
  exact aw_return rfl dX11_setRival_54
def F2_waysAbove_L8 (σ : Mem) (t0 : Nat) (t1 : Nat) : Nat → Int64 → Int64 → Int32 → Option (Int64)
  | 0 => fun _ _ _ => none
  | n + 1 => fun y2 y4 x6 =>
    if 100 < x6 then (some y2) else ((ald 101 (gL σ 2 t0 2) x6).bind fun v_1 => bnd (y2 + (v_1 * y4)) fun v_2 => (ald 101 (gL σ 2 t1 2) x6).bind fun v_3 => bnd (y4 + v_3) fun v_4 => (F2_waysAbove_L8 σ t0 t1 n) v_2 v_4 (x6 + 1))
set_option maxRecDepth 20000 in
theorem c2_waysAbove_L8 {l : Launch} {D : va_G} {ad : Nat → Nat → Nat → Nat} {cid : Nat → Nat → Nat → ClassId} {α : Type} {emb : α → Option Value} (σ : Mem) (t0 : Nat) (ht0 : t0 < 5) (t1 : Nat) (ht1 : t1 < 5) {G : Int64 → Option (α × Mem)} (kx : ∀ r, AW (XC l D ad cid) M2_waysAbove 0 emb [(2, .long r)] 46 [] σ (G r)) : ∀ (n : Nat) (y2 : Int64) (y4 : Int64) (x6 : Int32), AW (XC l D ad cid) M2_waysAbove 0 emb [(0, .ref (ad 2 t0 0)), (1, .ref (ad 2 t1 0)), (2, .long y2), (4, .long y4), (6, .int x6)] 8 [] σ ((F2_waysAbove_L8 σ t0 t1 n y2 y4 x6).bind G) := by
  intro n
  induction n with
  | zero => intros; exact aw_none
  | succ n ih =>
    intro y2 y4 x6
    rw [F2_waysAbove_L8.eq_2]
    refine aw_iload 4 dX2_waysAbove_8 rfl ?_
    refine aw_bipush 100 dX2_waysAbove_10 (by decide) ?_
    refine aw_icmp_gt 46 dX2_waysAbove_12 (by decide) ?_ ?_
    · refine aw_ls (ls' := [(2, .long y2)]) [2] rfl ?_
      exact kx y2
    · refine aw_lload_n 2 dX2_waysAbove_15 rfl rfl ?_
      refine aw_aload_n 0 dX2_waysAbove_16 rfl rfl ?_
      refine aw_getf (fg_2_2 (by omega)) ci_2 (by decide) w_620 dX2_waysAbove_17 ?_
      refine aw_iload 4 dX2_waysAbove_20 rfl ?_
      refine aw_laload (ar_2_2 (by omega)) dX2_waysAbove_22 (fun v_1 => ?_)
      refine aw_lload 3 dX2_waysAbove_23 rfl ?_
      refine aw_lmul dX2_waysAbove_25 ?_
      refine aw_ladd dX2_waysAbove_26 ?_
      refine aw_bnd_long (fun v_2 => ?_)
      refine aw_lstore_n (ls' := [(0, .ref (ad 2 t0 0)), (1, .ref (ad 2 t1 0)), (2, .long v_2), (4, .long y4), (6, .int x6)]) [1, 2, 0, 3, 4] dX2_waysAbove_27 rfl (by decide) rfl ?_
      refine aw_lload 3 dX2_waysAbove_28 rfl ?_
      refine aw_aload_n 1 dX2_waysAbove_30 rfl rfl ?_
      refine aw_getf (fg_2_2 (by omega)) ci_2 (by decide) w_620 dX2_waysAbove_31 ?_
      refine aw_iload 4 dX2_waysAbove_34 rfl ?_
      refine aw_laload (ar_2_2 (by omega)) dX2_waysAbove_36 (fun v_3 => ?_)
      refine aw_ladd dX2_waysAbove_37 ?_
      refine aw_bnd_long (fun v_4 => ?_)
      refine aw_lstore (ls' := [(0, .ref (ad 2 t0 0)), (1, .ref (ad 2 t1 0)), (2, .long v_2), (4, .long v_4), (6, .int x6)]) [1, 2, 3, 0, 4] dX2_waysAbove_38 (by decide) rfl ?_
      refine aw_iinc (ls' := [(0, .ref (ad 2 t0 0)), (1, .ref (ad 2 t1 0)), (2, .long v_2), (4, .long v_4), (6, .int (x6 + 1))]) (x6 + 1) 4 [1, 2, 3, 4, 0] dX2_waysAbove_40 rfl (by rfl) (by decide) rfl ?_
      refine aw_goto 8 dX2_waysAbove_43 (by decide) ?_
      exact ih v_2 v_4 (x6 + 1)
def F2_waysAbove (σ : Mem) (t0 : Nat) (t1 : Nat) : Option Int64 :=
  (F2_waysAbove_L8 σ t0 t1 fuelK 0 0 0).bind fun r_5 => some r_5
set_option maxRecDepth 20000 in
theorem c2_waysAbove {l : Launch} {D : va_G} {ad : Nat → Nat → Nat → Nat} {cid : Nat → Nat → Nat → ClassId} (σ : Mem) (t0 : Nat) (ht0 : t0 < 5) (t1 : Nat) (ht1 : t1 < 5) : AMF (XC l D ad cid) M2_waysAbove 0 eL [.ref (ad 2 t0 0), .ref (ad 2 t1 0)] σ (oM σ (F2_waysAbove σ t0 t1)) := by
  refine AM.ofW (by decide +kernel) (Nat.le_of_ble_eq_true rfl) (ls := [(0, .ref (ad 2 t0 0)), (1, .ref (ad 2 t1 0))]) rfl ?_
  refine aw_entryO ?_
  unfold F2_waysAbove
  refine aw_lconst 0 dX2_waysAbove_0 (by decide) ?_
  refine aw_lstore_n (ls' := [(0, .ref (ad 2 t0 0)), (1, .ref (ad 2 t1 0)), (2, .long 0)]) [1, 2, 0] dX2_waysAbove_1 rfl (by decide) rfl ?_
  refine aw_lconst 0 dX2_waysAbove_2 (by decide) ?_
  refine aw_lstore (ls' := [(0, .ref (ad 2 t0 0)), (1, .ref (ad 2 t1 0)), (2, .long 0), (4, .long 0)]) [1, 2, 3, 0] dX2_waysAbove_3 (by decide) rfl ?_
  refine aw_iconst 0 dX2_waysAbove_5 (by decide) ?_
  refine aw_istore (ls' := [(0, .ref (ad 2 t0 0)), (1, .ref (ad 2 t1 0)), (2, .long 0), (4, .long 0), (6, .int 0)]) [1, 2, 3, 4, 0] dX2_waysAbove_6 (by decide) rfl ?_
  refine aw_assoc ?_
  refine c2_waysAbove_L8 σ t0 (by omega) t1 (by omega) (fun r_5 => ?_) fuelK 0 0 0
  refine aw_lload_n 0 dX2_waysAbove_46 rfl rfl ?_
  exact aw_lreturn rfl dX2_waysAbove_47
def F2_allWays_L4 (σ : Mem) (t0 : Nat) : Nat → Int64 → Int32 → Option (Int64)
  | 0 => fun _ _ => none
  | n + 1 => fun y1 x3 =>
    if 100 < x3 then (some y1) else ((ald 101 (gL σ 2 t0 2) x3).bind fun v_1 => bnd (y1 + v_1) fun v_2 => (F2_allWays_L4 σ t0 n) v_2 (x3 + 1))
set_option maxRecDepth 20000 in
theorem c2_allWays_L4 {l : Launch} {D : va_G} {ad : Nat → Nat → Nat → Nat} {cid : Nat → Nat → Nat → ClassId} {α : Type} {emb : α → Option Value} (σ : Mem) (t0 : Nat) (ht0 : t0 < 5) {G : Int64 → Option (α × Mem)} (kx : ∀ r, AW (XC l D ad cid) M2_allWays 0 emb [(1, .long r)] 25 [] σ (G r)) : ∀ (n : Nat) (y1 : Int64) (x3 : Int32), AW (XC l D ad cid) M2_allWays 0 emb [(0, .ref (ad 2 t0 0)), (1, .long y1), (3, .int x3)] 4 [] σ ((F2_allWays_L4 σ t0 n y1 x3).bind G) := by
  intro n
  induction n with
  | zero => intros; exact aw_none
  | succ n ih =>
    intro y1 x3
    rw [F2_allWays_L4.eq_2]
    refine aw_iload_n 2 dX2_allWays_4 rfl rfl ?_
    refine aw_bipush 100 dX2_allWays_5 (by decide) ?_
    refine aw_icmp_gt 25 dX2_allWays_7 (by decide) ?_ ?_
    · refine aw_ls (ls' := [(1, .long y1)]) [1] rfl ?_
      exact kx y1
    · refine aw_lload_n 1 dX2_allWays_10 rfl rfl ?_
      refine aw_aload_n 0 dX2_allWays_11 rfl rfl ?_
      refine aw_getf (fg_2_2 (by omega)) ci_2 (by decide) w_620 dX2_allWays_12 ?_
      refine aw_iload_n 2 dX2_allWays_15 rfl rfl ?_
      refine aw_laload (ar_2_2 (by omega)) dX2_allWays_16 (fun v_1 => ?_)
      refine aw_ladd dX2_allWays_17 ?_
      refine aw_bnd_long (fun v_2 => ?_)
      refine aw_lstore_n (ls' := [(0, .ref (ad 2 t0 0)), (1, .long v_2), (3, .int x3)]) [1, 0, 2] dX2_allWays_18 rfl (by decide) rfl ?_
      refine aw_iinc (ls' := [(0, .ref (ad 2 t0 0)), (1, .long v_2), (3, .int (x3 + 1))]) (x3 + 1) 2 [1, 2, 0] dX2_allWays_19 rfl (by rfl) (by decide) rfl ?_
      refine aw_goto 4 dX2_allWays_22 (by decide) ?_
      exact ih v_2 (x3 + 1)
def F2_allWays (σ : Mem) (t0 : Nat) : Option Int64 :=
  (F2_allWays_L4 σ t0 fuelK 0 0).bind fun r_3 => some r_3
set_option maxRecDepth 20000 in
theorem c2_allWays {l : Launch} {D : va_G} {ad : Nat → Nat → Nat → Nat} {cid : Nat → Nat → Nat → ClassId} (σ : Mem) (t0 : Nat) (ht0 : t0 < 5) : AMF (XC l D ad cid) M2_allWays 0 eL [.ref (ad 2 t0 0)] σ (oM σ (F2_allWays σ t0)) := by
  refine AM.ofW (by decide +kernel) (Nat.le_of_ble_eq_true rfl) (ls := [(0, .ref (ad 2 t0 0))]) rfl ?_
  refine aw_entryO ?_
  unfold F2_allWays
  refine aw_lconst 0 dX2_allWays_0 (by decide) ?_
  refine aw_lstore_n (ls' := [(0, .ref (ad 2 t0 0)), (1, .long 0)]) [1, 0] dX2_allWays_1 rfl (by decide) rfl ?_
  refine aw_iconst 0 dX2_allWays_2 (by decide) ?_
  refine aw_istore_n (ls' := [(0, .ref (ad 2 t0 0)), (1, .long 0), (3, .int 0)]) [1, 2, 0] dX2_allWays_3 rfl (by decide) rfl ?_
  refine aw_assoc ?_
  refine c2_allWays_L4 σ t0 (by omega) (fun r_3 => ?_) fuelK 0 0
  refine aw_lload_n 0 dX2_allWays_25 rfl rfl ?_
  exact aw_lreturn rfl dX2_allWays_26
def F11_turns (σ : Mem) (x1 : Int32) (x2 : Int32) (x3 : Int32) (x4 : Int32) (x5 : Int32) (x6 : Int32) : Option (Bool × Mem) :=
  (F11_isShooter σ x1).bind fun v_1 => if v_1 = true then ((F11_isShooter σ x3).bind fun v_4 => if v_4 = true then ((F11_isPea σ x2).bind fun v_7 => if v_7 = true then ((F11_isPea σ x4).bind fun v_10 => if v_10 = true then (if (F11_within x5 1 5) = true then (if (F11_within x6 0 2) = true then (bd (F11_setRival σ 0 x1 x2 x5) fun _ s_13 => bd (F11_setRival s_13 1 x3 x4 x5) fun _ s_14 => (ald 4 id 0).bind fun t_15 => (ald 4 id 1).bind fun t_16 => (F2_waysAbove s_14 (1 + t_15) (1 + t_16)).bind fun v_17 => (ald 4 id 1).bind fun t_18 => (ald 4 id 0).bind fun t_19 => (F2_waysAbove s_14 (1 + t_18) (1 + t_19)).bind fun v_20 => (ald 4 id 0).bind fun t_21 => (F2_allWays s_14 (1 + t_21)).bind fun v_22 => (ald 4 id 1).bind fun t_23 => (F2_allWays s_14 (1 + t_23)).bind fun v_24 => bnd (v_22 * v_24) fun v_25 => if x6 = 0 then (bd (F11_tell s_14 v_17 v_25) fun _ s_32 => bd (F11_agree s_32) fun v_33 s_34 => some (v_33, s_34)) else (if x6 = 1 then (bd (F11_tell s_14 ((v_25 - v_17) - v_20) v_25) fun _ s_29 => bd (F11_agree s_29) fun v_30 s_31 => some (v_30, s_31)) else (bd (F11_tell s_14 v_20 v_25) fun _ s_26 => bd (F11_agree s_26) fun v_27 s_28 => some (v_27, s_28)))) else (bd (F11_deny σ 5) fun v_35 s_36 => some (v_35, s_36))) else (bd (F11_deny σ 5) fun v_11 s_12 => some (v_11, s_12))) else (bd (F11_deny σ 2) fun v_37 s_38 => some (v_37, s_38))) else (bd (F11_deny σ 2) fun v_8 s_9 => some (v_8, s_9))) else (bd (F11_deny σ 2) fun v_5 s_6 => some (v_5, s_6))) else (bd (F11_deny σ 2) fun v_2 s_3 => some (v_2, s_3))
set_option maxRecDepth 20000 in
theorem c11_turns {l : Launch} {D : va_G} {ad : Nat → Nat → Nat → Nat} {cid : Nat → Nat → Nat → ClassId} (σ : Mem) (x1 : Int32) (x2 : Int32) (x3 : Int32) (x4 : Int32) (x5 : Int32) (x6 : Int32) : AMF (XC l D ad cid) M11_turns 6 eB [.ref (ad 11 0 0), .int x1, .int x2, .int x3, .int x4, .int x5, .int x6] σ (F11_turns σ x1 x2 x3 x4 x5 x6) := by
  refine AM.ofW (by decide +kernel) (Nat.le_of_ble_eq_true rfl) (ls := [(0, .ref (ad 11 0 0)), (1, .int x1), (2, .int x2), (3, .int x3), (4, .int x4), (5, .int x5), (6, .int x6)]) rfl ?_
  refine aw_entry ?_
  unfold F11_turns
  refine aw_aload_n 0 dX11_turns_0 rfl rfl ?_
  refine aw_iload_n 1 dX11_turns_1 rfl rfl ?_
  refine aw_callVO_B (c11_isShooter σ x1) (io_11 (by decide)) ci_11 (by decide) mk_11_isShooter w_1064 w_23 w_1062 rfl rfl (Nat.le_of_ble_eq_true rfl) dX11_turns_2 (fun v_1 => ?_)
  refine aw_bif_eq 33 dX11_turns_5 (by decide) ?_ ?_
  · refine aw_aload_n 0 dX11_turns_33 rfl rfl ?_
    refine aw_iconst 2 dX11_turns_34 (by decide) ?_
    refine aw_callVW_B (c11_deny σ 2) (io_11 (by decide)) ci_11 (by decide) mk_11_deny w_802 w_0 w_800 rfl rfl (Nat.le_of_ble_eq_true rfl) dX11_turns_35 (fun v_2 s_3 => ?_)
    exact aw_zreturn (b := v_2) rfl rfl dX11_turns_38
  · refine aw_aload_n 0 dX11_turns_8 rfl rfl ?_
    refine aw_iload_n 3 dX11_turns_9 rfl rfl ?_
    refine aw_callVO_B (c11_isShooter σ x3) (io_11 (by decide)) ci_11 (by decide) mk_11_isShooter w_1064 w_23 w_1062 rfl rfl (Nat.le_of_ble_eq_true rfl) dX11_turns_10 (fun v_4 => ?_)
    refine aw_bif_eq 33 dX11_turns_13 (by decide) ?_ ?_
    · refine aw_aload_n 0 dX11_turns_33 rfl rfl ?_
      refine aw_iconst 2 dX11_turns_34 (by decide) ?_
      refine aw_callVW_B (c11_deny σ 2) (io_11 (by decide)) ci_11 (by decide) mk_11_deny w_802 w_0 w_800 rfl rfl (Nat.le_of_ble_eq_true rfl) dX11_turns_35 (fun v_5 s_6 => ?_)
      exact aw_zreturn (b := v_5) rfl rfl dX11_turns_38
    · refine aw_aload_n 0 dX11_turns_16 rfl rfl ?_
      refine aw_iload_n 2 dX11_turns_17 rfl rfl ?_
      refine aw_callVO_B (c11_isPea σ x2) (io_11 (by decide)) ci_11 (by decide) mk_11_isPea w_1047 w_22 w_1045 rfl rfl (Nat.le_of_ble_eq_true rfl) dX11_turns_18 (fun v_7 => ?_)
      refine aw_bif_eq 33 dX11_turns_21 (by decide) ?_ ?_
      · refine aw_aload_n 0 dX11_turns_33 rfl rfl ?_
        refine aw_iconst 2 dX11_turns_34 (by decide) ?_
        refine aw_callVW_B (c11_deny σ 2) (io_11 (by decide)) ci_11 (by decide) mk_11_deny w_802 w_0 w_800 rfl rfl (Nat.le_of_ble_eq_true rfl) dX11_turns_35 (fun v_8 s_9 => ?_)
        exact aw_zreturn (b := v_8) rfl rfl dX11_turns_38
      · refine aw_aload_n 0 dX11_turns_24 rfl rfl ?_
        refine aw_iload 4 dX11_turns_25 rfl ?_
        refine aw_callVO_B (c11_isPea σ x4) (io_11 (by decide)) ci_11 (by decide) mk_11_isPea w_1047 w_22 w_1045 rfl rfl (Nat.le_of_ble_eq_true rfl) dX11_turns_27 (fun v_10 => ?_)
        refine aw_bif_ne 39 dX11_turns_30 (by decide) ?_ ?_
        · refine aw_iload 5 dX11_turns_39 rfl ?_
          refine aw_iconst 1 dX11_turns_41 (by decide) ?_
          refine aw_iconst 5 dX11_turns_42 (by decide) ?_
          refine aw_callST_B (c11_within σ x5 1 5) (by decide) mk_11_within w_798 w_797 rfl rfl (Nat.le_of_ble_eq_true rfl) dX11_turns_43 ?_
          refine aw_bif_eq 59 dX11_turns_46 (by decide) ?_ ?_
          · refine aw_aload_n 0 dX11_turns_59 rfl rfl ?_
            refine aw_iconst 5 dX11_turns_60 (by decide) ?_
            refine aw_callVW_B (c11_deny σ 5) (io_11 (by decide)) ci_11 (by decide) mk_11_deny w_802 w_0 w_800 rfl rfl (Nat.le_of_ble_eq_true rfl) dX11_turns_61 (fun v_11 s_12 => ?_)
            exact aw_zreturn (b := v_11) rfl rfl dX11_turns_64
          · refine aw_iload 6 dX11_turns_49 rfl ?_
            refine aw_iconst 0 dX11_turns_51 (by decide) ?_
            refine aw_iconst 2 dX11_turns_52 (by decide) ?_
            refine aw_callST_B (c11_within σ x6 0 2) (by decide) mk_11_within w_798 w_797 rfl rfl (Nat.le_of_ble_eq_true rfl) dX11_turns_53 ?_
            refine aw_bif_ne 65 dX11_turns_56 (by decide) ?_ ?_
            · refine aw_aload_n 0 dX11_turns_65 rfl rfl ?_
              refine aw_iconst 0 dX11_turns_66 (by decide) ?_
              refine aw_iload_n 1 dX11_turns_67 rfl rfl ?_
              refine aw_iload_n 2 dX11_turns_68 rfl rfl ?_
              refine aw_iload 5 dX11_turns_69 rfl ?_
              refine aw_callVW_U (c11_setRival σ 0 x1 x2 x5) (io_11 (by decide)) ci_11 (by decide) mk_11_setRival w_1265 w_36 w_1263 rfl rfl (Nat.le_of_ble_eq_true rfl) dX11_turns_71 (fun _ s_13 => ?_)
              refine aw_aload_n 0 dX11_turns_74 rfl rfl ?_
              refine aw_iconst 1 dX11_turns_75 (by decide) ?_
              refine aw_iload_n 3 dX11_turns_76 rfl rfl ?_
              refine aw_iload 4 dX11_turns_77 rfl ?_
              refine aw_iload 5 dX11_turns_79 rfl ?_
              refine aw_callVW_U (c11_setRival s_13 1 x3 x4 x5) (io_11 (by decide)) ci_11 (by decide) mk_11_setRival w_1265 w_36 w_1263 rfl rfl (Nat.le_of_ble_eq_true rfl) dX11_turns_81 (fun _ s_14 => ?_)
              refine aw_aload_n 0 dX11_turns_84 rfl rfl ?_
              refine aw_getf (fg_11_15 (by decide)) ci_11 (by decide) w_732 dX11_turns_85 ?_
              refine aw_iconst 0 dX11_turns_88 (by decide) ?_
              refine aw_aaload (ar_11_3 (by decide)) dX11_turns_89 (fun t_15 ht_15 => ?_)
              refine aw_aload_n 0 dX11_turns_90 rfl rfl ?_
              refine aw_getf (fg_11_15 (by decide)) ci_11 (by decide) w_732 dX11_turns_91 ?_
              refine aw_iconst 1 dX11_turns_94 (by decide) ?_
              refine aw_aaload (ar_11_3 (by decide)) dX11_turns_95 (fun t_16 ht_16 => ?_)
              refine aw_callVO_L (c2_waysAbove s_14 (1 + t_15) (by omega) (1 + t_16) (by omega)) (io_2 (by omega)) ci_2 (by decide) mk_2_waysAbove w_1277 w_1278 w_1276 rfl rfl (Nat.le_of_ble_eq_true rfl) dX11_turns_96 (fun v_17 => ?_)
              refine aw_lstore (ls' := [(0, .ref (ad 11 0 0)), (6, .int x6), (7, .long v_17)]) [1, 7, 0] dX11_turns_99 (by decide) rfl ?_
              refine aw_aload_n 0 dX11_turns_101 rfl rfl ?_
              refine aw_getf (fg_11_15 (by decide)) ci_11 (by decide) w_732 dX11_turns_102 ?_
              refine aw_iconst 1 dX11_turns_105 (by decide) ?_
              refine aw_aaload (ar_11_3 (by decide)) dX11_turns_106 (fun t_18 ht_18 => ?_)
              refine aw_aload_n 0 dX11_turns_107 rfl rfl ?_
              refine aw_getf (fg_11_15 (by decide)) ci_11 (by decide) w_732 dX11_turns_108 ?_
              refine aw_iconst 0 dX11_turns_111 (by decide) ?_
              refine aw_aaload (ar_11_3 (by decide)) dX11_turns_112 (fun t_19 ht_19 => ?_)
              refine aw_callVO_L (c2_waysAbove s_14 (1 + t_18) (by omega) (1 + t_19) (by omega)) (io_2 (by omega)) ci_2 (by decide) mk_2_waysAbove w_1277 w_1278 w_1276 rfl rfl (Nat.le_of_ble_eq_true rfl) dX11_turns_113 (fun v_20 => ?_)
              refine aw_lstore (ls' := [(0, .ref (ad 11 0 0)), (6, .int x6), (7, .long v_17), (9, .long v_20)]) [1, 2, 3, 0] dX11_turns_116 (by decide) rfl ?_
              refine aw_aload_n 0 dX11_turns_118 rfl rfl ?_
              refine aw_getf (fg_11_15 (by decide)) ci_11 (by decide) w_732 dX11_turns_119 ?_
              refine aw_iconst 0 dX11_turns_122 (by decide) ?_
              refine aw_aaload (ar_11_3 (by decide)) dX11_turns_123 (fun t_21 ht_21 => ?_)
              refine aw_callVO_L (c2_allWays s_14 (1 + t_21) (by omega)) (io_2 (by omega)) ci_2 (by decide) mk_2_allWays w_1281 w_1282 w_1280 rfl rfl (Nat.le_of_ble_eq_true rfl) dX11_turns_124 (fun v_22 => ?_)
              refine aw_aload_n 0 dX11_turns_127 rfl rfl ?_
              refine aw_getf (fg_11_15 (by decide)) ci_11 (by decide) w_732 dX11_turns_128 ?_
              refine aw_iconst 1 dX11_turns_131 (by decide) ?_
              refine aw_aaload (ar_11_3 (by decide)) dX11_turns_132 (fun t_23 ht_23 => ?_)
              refine aw_callVO_L (c2_allWays s_14 (1 + t_23) (by omega)) (io_2 (by omega)) ci_2 (by decide) mk_2_allWays w_1281 w_1282 w_1280 rfl rfl (Nat.le_of_ble_eq_true rfl) dX11_turns_133 (fun v_24 => ?_)
              refine aw_lmul dX11_turns_136 ?_
              refine aw_bnd_long (fun v_25 => ?_)
              refine aw_lstore (ls' := [(0, .ref (ad 11 0 0)), (6, .int x6), (7, .long v_17), (9, .long v_20), (11, .long v_25)]) [1, 2, 3, 4, 0] dX11_turns_137 (by decide) rfl ?_
              refine aw_iload 1 dX11_turns_139 rfl ?_
              refine aw_if_ne 155 dX11_turns_141 (by decide) ?_ ?_
              · refine aw_iload 1 dX11_turns_155 rfl ?_
                refine aw_iconst 1 dX11_turns_157 (by decide) ?_
                refine aw_icmp_ne 178 dX11_turns_158 (by decide) ?_ ?_
                · refine aw_aload_n 0 dX11_turns_178 rfl rfl ?_
                  refine aw_lload 3 dX11_turns_179 rfl ?_
                  refine aw_lload 4 dX11_turns_181 rfl ?_
                  refine aw_callVW_U (c11_tell s_14 v_20 v_25) (io_11 (by decide)) ci_11 (by decide) mk_11_tell w_1174 w_30 w_1172 rfl rfl (Nat.le_of_ble_eq_true rfl) dX11_turns_183 (fun _ s_26 => ?_)
                  refine aw_aload_n 0 dX11_turns_186 rfl rfl ?_
                  refine aw_callVW_B (c11_agree s_26 ) (io_11 (by decide)) ci_11 (by decide) mk_11_agree w_813 w_1 w_811 rfl rfl (Nat.le_of_ble_eq_true rfl) dX11_turns_187 (fun v_27 s_28 => ?_)
                  exact aw_zreturn (b := v_27) rfl rfl dX11_turns_190
                · refine aw_aload_n 0 dX11_turns_161 rfl rfl ?_
                  refine aw_lload 4 dX11_turns_162 rfl ?_
                  refine aw_lload 2 dX11_turns_164 rfl ?_
                  refine aw_lsub dX11_turns_166 ?_
                  refine aw_lload 3 dX11_turns_167 rfl ?_
                  refine aw_lsub dX11_turns_169 ?_
                  refine aw_lload 4 dX11_turns_170 rfl ?_
                  refine aw_callVW_U (c11_tell s_14 ((v_25 - v_17) - v_20) v_25) (io_11 (by decide)) ci_11 (by decide) mk_11_tell w_1174 w_30 w_1172 rfl rfl (Nat.le_of_ble_eq_true rfl) dX11_turns_172 (fun _ s_29 => ?_)
                  refine aw_goto 186 dX11_turns_175 (by decide) ?_
                  refine aw_aload_n 0 dX11_turns_186 rfl rfl ?_
                  refine aw_callVW_B (c11_agree s_29 ) (io_11 (by decide)) ci_11 (by decide) mk_11_agree w_813 w_1 w_811 rfl rfl (Nat.le_of_ble_eq_true rfl) dX11_turns_187 (fun v_30 s_31 => ?_)
                  exact aw_zreturn (b := v_30) rfl rfl dX11_turns_190
              · refine aw_aload_n 0 dX11_turns_144 rfl rfl ?_
                refine aw_lload 2 dX11_turns_145 rfl ?_
                refine aw_lload 4 dX11_turns_147 rfl ?_
                refine aw_callVW_U (c11_tell s_14 v_17 v_25) (io_11 (by decide)) ci_11 (by decide) mk_11_tell w_1174 w_30 w_1172 rfl rfl (Nat.le_of_ble_eq_true rfl) dX11_turns_149 (fun _ s_32 => ?_)
                refine aw_goto 186 dX11_turns_152 (by decide) ?_
                refine aw_aload_n 0 dX11_turns_186 rfl rfl ?_
                refine aw_callVW_B (c11_agree s_32 ) (io_11 (by decide)) ci_11 (by decide) mk_11_agree w_813 w_1 w_811 rfl rfl (Nat.le_of_ble_eq_true rfl) dX11_turns_187 (fun v_33 s_34 => ?_)
                exact aw_zreturn (b := v_33) rfl rfl dX11_turns_190
            · refine aw_aload_n 0 dX11_turns_59 rfl rfl ?_
              refine aw_iconst 5 dX11_turns_60 (by decide) ?_
              refine aw_callVW_B (c11_deny σ 5) (io_11 (by decide)) ci_11 (by decide) mk_11_deny w_802 w_0 w_800 rfl rfl (Nat.le_of_ble_eq_true rfl) dX11_turns_61 (fun v_35 s_36 => ?_)
              exact aw_zreturn (b := v_35) rfl rfl dX11_turns_64
        · refine aw_aload_n 0 dX11_turns_33 rfl rfl ?_
          refine aw_iconst 2 dX11_turns_34 (by decide) ?_
          refine aw_callVW_B (c11_deny σ 2) (io_11 (by decide)) ci_11 (by decide) mk_11_deny w_802 w_0 w_800 rfl rfl (Nat.le_of_ble_eq_true rfl) dX11_turns_35 (fun v_37 s_38 => ?_)
          exact aw_zreturn (b := v_37) rfl rfl dX11_turns_38
def F11_wrongKnock_L29 (x1 : Int32) (x3 : Int32) : Nat → Mem → Int32 → Option Int32
  | 0 => fun _ _ => none
  | n + 1 => fun σ x5 =>
    if 4 ≤ x5 then (if (F11_within x3 0 3) = true then (some 0) else (some 5)) else ((ald 4 id x1).bind fun t_3 => (ald 60 (gL σ 10 t_3 1) x5).bind fun v_4 => if v_4 < 0 then (some 2) else (gd 5 (gR σ 11 0 0 5) fun t_5 => if v_4 < (Int32.toInt64 (gI σ 9 t_5 0 13)) then ((F11_wrongKnock_L29 x1 x3 n) σ (x5 + 1)) else (some 2)))
set_option maxRecDepth 20000 in
theorem c11_wrongKnock_L29 {l : Launch} {D : va_G} {ad : Nat → Nat → Nat → Nat} {cid : Nat → Nat → Nat → ClassId} (x1 : Int32) (x3 : Int32) : ∀ (n : Nat) (σ : Mem) (x5 : Int32), AW (XC l D ad cid) M11_wrongKnock 3 eI [(0, .ref (ad 11 0 0)), (1, .int x1), (3, .int x3), (5, .int x5)] 29 [] σ ((F11_wrongKnock_L29 x1 x3 n σ x5).bind (fun v => some (v, σ))) := by
  intro n
  induction n with
  | zero => intros; exact aw_none
  | succ n ih =>
    intro σ x5
    rw [F11_wrongKnock_L29.eq_2]
    refine aw_iload 3 dX11_wrongKnock_29 rfl ?_
    refine aw_iconst 4 dX11_wrongKnock_31 (by decide) ?_
    refine aw_icmp_ge 78 dX11_wrongKnock_32 (by decide) ?_ ?_
    · refine aw_iload_n 2 dX11_wrongKnock_78 rfl rfl ?_
      refine aw_iconst 0 dX11_wrongKnock_79 (by decide) ?_
      refine aw_iconst 3 dX11_wrongKnock_80 (by decide) ?_
      refine aw_callST_B (c11_within σ x3 0 3) (by decide) mk_11_within w_798 w_797 rfl rfl (Nat.le_of_ble_eq_true rfl) dX11_wrongKnock_81 ?_
      refine aw_bif_eq 91 dX11_wrongKnock_84 (by decide) ?_ ?_
      · refine aw_iconst 5 dX11_wrongKnock_91 (by decide) ?_
        exact aw_ireturn rfl dX11_wrongKnock_92
      · refine aw_iconst 0 dX11_wrongKnock_87 (by decide) ?_
        refine aw_goto 92 dX11_wrongKnock_88 (by decide) ?_
        exact aw_ireturn rfl dX11_wrongKnock_92
    · refine aw_aload_n 0 dX11_wrongKnock_35 rfl rfl ?_
      refine aw_getf (fg_11_3 (by decide)) ci_11 (by decide) w_720 dX11_wrongKnock_36 ?_
      refine aw_iload_n 1 dX11_wrongKnock_39 rfl rfl ?_
      refine aw_aaload (ar_11_1 (by decide)) dX11_wrongKnock_40 (fun t_3 ht_3 => ?_)
      refine aw_getf (fg_10_3 (by omega)) ci_10 (by decide) w_181 dX11_wrongKnock_41 ?_
      refine aw_iload 3 dX11_wrongKnock_44 rfl ?_
      refine aw_laload (ar_10_1 (by omega)) dX11_wrongKnock_46 (fun v_4 => ?_)
      refine aw_lstore (ls' := [(0, .ref (ad 11 0 0)), (1, .int x1), (3, .int x3), (5, .int x5), (6, .long v_4)]) [1, 2, 3, 4, 0] dX11_wrongKnock_47 (by decide) rfl ?_
      refine aw_lload 4 dX11_wrongKnock_49 rfl ?_
      refine aw_lconst 0 dX11_wrongKnock_51 (by decide) ?_
      refine aw_lcmp dX11_wrongKnock_52 ?_
      refine aw_lif_lt 70 dX11_wrongKnock_53 (by decide) ?_ ?_
      · refine aw_iconst 2 dX11_wrongKnock_70 (by decide) ?_
        exact aw_ireturn rfl dX11_wrongKnock_71
      · refine aw_lload 4 dX11_wrongKnock_56 rfl ?_
        refine aw_aload_n 0 dX11_wrongKnock_58 rfl rfl ?_
        refine aw_getf (fg_11_5 (by decide)) ci_11 (by decide) w_722 dX11_wrongKnock_59 ?_
        refine aw_gd (n := 5) (fun t_5 ht_5 => ?_)
        refine aw_getf (fg_9_13 (by omega)) ci_9 (by decide) w_353 dX11_wrongKnock_62 ?_
        refine aw_i2l dX11_wrongKnock_65 ?_
        refine aw_lcmp dX11_wrongKnock_66 ?_
        refine aw_lif_lt 72 dX11_wrongKnock_67 (by decide) ?_ ?_
        · refine aw_iinc (ls' := [(0, .ref (ad 11 0 0)), (1, .int x1), (3, .int x3), (5, .int (x5 + 1))]) (x5 + 1) 3 [1, 2, 3, 0] dX11_wrongKnock_72 rfl (by rfl) (by decide) rfl ?_
          refine aw_goto 29 dX11_wrongKnock_75 (by decide) ?_
          exact ih σ (x5 + 1)
        · refine aw_iconst 2 dX11_wrongKnock_70 (by decide) ?_
          exact aw_ireturn rfl dX11_wrongKnock_71
def F11_wrongKnock (σ : Mem) (x1 : Int32) (x2 : Int32) (x3 : Int32) : Option Int32 :=
  (F11_wrongPlace σ x1 3).bind fun v_1 => if v_1 = 0 then ((F11_isPea σ x2).bind fun v_2 => if v_2 = true then (F11_wrongKnock_L29 x1 x3 fuelK σ 0) else (some 2)) else (some v_1)
set_option maxRecDepth 20000 in
theorem c11_wrongKnock {l : Launch} {D : va_G} {ad : Nat → Nat → Nat → Nat} {cid : Nat → Nat → Nat → ClassId} (σ : Mem) (x1 : Int32) (x2 : Int32) (x3 : Int32) : AMF (XC l D ad cid) M11_wrongKnock 3 eI [.ref (ad 11 0 0), .int x1, .int x2, .int x3] σ (oM σ (F11_wrongKnock σ x1 x2 x3)) := by
  refine AM.ofW (by decide +kernel) (Nat.le_of_ble_eq_true rfl) (ls := [(0, .ref (ad 11 0 0)), (1, .int x1), (2, .int x2), (3, .int x3)]) rfl ?_
  refine aw_entryO ?_
  unfold F11_wrongKnock
  refine aw_aload_n 0 dX11_wrongKnock_0 rfl rfl ?_
  refine aw_iload_n 1 dX11_wrongKnock_1 rfl rfl ?_
  refine aw_iconst 3 dX11_wrongKnock_2 (by decide) ?_
  refine aw_callVO_I (c11_wrongPlace σ x1 3) (io_11 (by decide)) ci_11 (by decide) mk_11_wrongPlace w_821 w_2 w_819 rfl rfl (Nat.le_of_ble_eq_true rfl) dX11_wrongKnock_3 (fun v_1 => ?_)
  refine aw_istore (ls' := [(0, .ref (ad 11 0 0)), (1, .int x1), (2, .int x2), (3, .int x3), (4, .int v_1)]) [1, 2, 3, 4, 0] dX11_wrongKnock_6 (by decide) rfl ?_
  refine aw_iload 4 dX11_wrongKnock_8 rfl ?_
  refine aw_if_eq 16 dX11_wrongKnock_10 (by decide) ?_ ?_
  · refine aw_aload_n 0 dX11_wrongKnock_16 rfl rfl ?_
    refine aw_iload_n 2 dX11_wrongKnock_17 rfl rfl ?_
    refine aw_callVO_B (c11_isPea σ x2) (io_11 (by decide)) ci_11 (by decide) mk_11_isPea w_1047 w_22 w_1045 rfl rfl (Nat.le_of_ble_eq_true rfl) dX11_wrongKnock_18 (fun v_2 => ?_)
    refine aw_bif_ne 26 dX11_wrongKnock_21 (by decide) ?_ ?_
    · refine aw_iconst 0 dX11_wrongKnock_26 (by decide) ?_
      refine aw_istore (ls' := [(0, .ref (ad 11 0 0)), (1, .int x1), (3, .int x3), (5, .int 0)]) [1, 2, 4, 0] dX11_wrongKnock_27 (by decide) rfl ?_
      exact c11_wrongKnock_L29 x1 x3 fuelK σ 0
    · refine aw_iconst 2 dX11_wrongKnock_24 (by decide) ?_
      exact aw_ireturn rfl dX11_wrongKnock_25
  · refine aw_iload 4 dX11_wrongKnock_13 rfl ?_
    exact aw_ireturn rfl dX11_wrongKnock_15
def F11_beats (σ : Mem) (x1 : Int32) (x2 : Int32) : Option Int64 :=
  (ald 4 id x1).bind fun t_1 => (ald 4 id x2).bind fun t_2 => (F2_waysAbove σ (1 + t_1) (1 + t_2)).bind fun v_3 => some v_3
set_option maxRecDepth 20000 in
theorem c11_beats {l : Launch} {D : va_G} {ad : Nat → Nat → Nat → Nat} {cid : Nat → Nat → Nat → ClassId} (σ : Mem) (x1 : Int32) (x2 : Int32) : AMF (XC l D ad cid) M11_beats 1 eL [.ref (ad 11 0 0), .int x1, .int x2] σ (oM σ (F11_beats σ x1 x2)) := by
  refine AM.ofW (by decide +kernel) (Nat.le_of_ble_eq_true rfl) (ls := [(0, .ref (ad 11 0 0)), (1, .int x1), (2, .int x2)]) rfl ?_
  refine aw_entryO ?_
  unfold F11_beats
  refine aw_aload_n 0 dX11_beats_0 rfl rfl ?_
  refine aw_getf (fg_11_15 (by decide)) ci_11 (by decide) w_732 dX11_beats_1 ?_
  refine aw_iload_n 1 dX11_beats_4 rfl rfl ?_
  refine aw_aaload (ar_11_3 (by decide)) dX11_beats_5 (fun t_1 ht_1 => ?_)
  refine aw_aload_n 0 dX11_beats_6 rfl rfl ?_
  refine aw_getf (fg_11_15 (by decide)) ci_11 (by decide) w_732 dX11_beats_7 ?_
  refine aw_iload_n 2 dX11_beats_10 rfl rfl ?_
  refine aw_aaload (ar_11_3 (by decide)) dX11_beats_11 (fun t_2 ht_2 => ?_)
  refine aw_callVO_L (c2_waysAbove σ (1 + t_1) (by omega) (1 + t_2) (by omega)) (io_2 (by omega)) ci_2 (by decide) mk_2_waysAbove w_1277 w_1278 w_1276 rfl rfl (Nat.le_of_ble_eq_true rfl) dX11_beats_12 (fun v_3 => ?_)
  exact aw_lreturn rfl dX11_beats_15
def F11_decided (σ : Mem) (x1 : Int32) (x2 : Int32) : Option Int64 :=
  (F11_beats σ x1 x2).bind fun v_1 => (F11_beats σ x2 x1).bind fun v_2 => some (v_1 + v_2)
set_option maxRecDepth 20000 in
theorem c11_decided {l : Launch} {D : va_G} {ad : Nat → Nat → Nat → Nat} {cid : Nat → Nat → Nat → ClassId} (σ : Mem) (x1 : Int32) (x2 : Int32) : AMF (XC l D ad cid) M11_decided 2 eL [.ref (ad 11 0 0), .int x1, .int x2] σ (oM σ (F11_decided σ x1 x2)) := by
  refine AM.ofW (by decide +kernel) (Nat.le_of_ble_eq_true rfl) (ls := [(0, .ref (ad 11 0 0)), (1, .int x1), (2, .int x2)]) rfl ?_
  refine aw_entryO ?_
  unfold F11_decided
  refine aw_aload_n 0 dX11_decided_0 rfl rfl ?_
  refine aw_iload_n 1 dX11_decided_1 rfl rfl ?_
  refine aw_iload_n 2 dX11_decided_2 rfl rfl ?_
  refine aw_callVO_L (c11_beats σ x1 x2) (io_11 (by decide)) ci_11 (by decide) mk_11_beats w_1298 w_40 w_1296 rfl rfl (Nat.le_of_ble_eq_true rfl) dX11_decided_3 (fun v_1 => ?_)
  refine aw_aload_n 0 dX11_decided_6 rfl rfl ?_
  refine aw_iload_n 2 dX11_decided_7 rfl rfl ?_
  refine aw_iload_n 1 dX11_decided_8 rfl rfl ?_
  refine aw_callVO_L (c11_beats σ x2 x1) (io_11 (by decide)) ci_11 (by decide) mk_11_beats w_1298 w_40 w_1296 rfl rfl (Nat.le_of_ble_eq_true rfl) dX11_decided_9 (fun v_2 => ?_)
  refine aw_ladd dX11_decided_12 ?_
  exact aw_lreturn rfl dX11_decided_13
def F11_knock_L24 (x1 : Int32) (x2 : Int32) (x3 : Int32) : Nat → Mem → Int32 → Option ((Unit) × Mem)
  | 0 => fun _ _ => none
  | n + 1 => fun σ x5 =>
    if 4 ≤ x5 then (some ((), σ)) else ((ald 4 id x1).bind fun t_2 => (ald 60 (gL σ 10 t_2 1) x5).bind fun v_3 => bd (F11_setRival σ x5 (Int64.toInt32 v_3) x2 1) fun _ s_4 => (F11_knock_L24 x1 x2 x3 n) s_4 (x5 + 1))
set_option maxRecDepth 20000 in
theorem c11_knock_L24 {l : Launch} {D : va_G} {ad : Nat → Nat → Nat → Nat} {cid : Nat → Nat → Nat → ClassId} {α : Type} {emb : α → Option Value} (x1 : Int32) (x2 : Int32) (x3 : Int32) {G : Unit → Mem → Option (α × Mem)} (kx : ∀ r σ, AW (XC l D ad cid) M11_knock 6 emb [(0, .ref (ad 11 0 0)), (3, .int x3)] 57 [] σ (G r σ)) : ∀ (n : Nat) (σ : Mem) (x5 : Int32), AW (XC l D ad cid) M11_knock 6 emb [(0, .ref (ad 11 0 0)), (1, .int x1), (2, .int x2), (3, .int x3), (5, .int x5)] 24 [] σ (bd (F11_knock_L24 x1 x2 x3 n σ x5) G) := by
  intro n
  induction n with
  | zero => intros; exact aw_none
  | succ n ih =>
    intro σ x5
    refine aw_bdB ?_
    rw [F11_knock_L24.eq_2]
    refine aw_iload 4 dX11_knock_24 rfl ?_
    refine aw_iconst 4 dX11_knock_26 (by decide) ?_
    refine aw_icmp_ge 57 dX11_knock_27 (by decide) ?_ ?_
    · refine aw_ls (ls' := [(0, .ref (ad 11 0 0)), (3, .int x3)]) [0, 3] rfl ?_
      exact kx () σ
    · refine aw_aload_n 0 dX11_knock_30 rfl rfl ?_
      refine aw_iload 4 dX11_knock_31 rfl ?_
      refine aw_aload_n 0 dX11_knock_33 rfl rfl ?_
      refine aw_getf (fg_11_3 (by decide)) ci_11 (by decide) w_720 dX11_knock_34 ?_
      refine aw_iload_n 1 dX11_knock_37 rfl rfl ?_
      refine aw_aaload (ar_11_1 (by decide)) dX11_knock_38 (fun t_2 ht_2 => ?_)
      refine aw_getf (fg_10_3 (by omega)) ci_10 (by decide) w_181 dX11_knock_39 ?_
      refine aw_iload 4 dX11_knock_42 rfl ?_
      refine aw_laload (ar_10_1 (by omega)) dX11_knock_44 (fun v_3 => ?_)
      refine aw_l2i dX11_knock_45 ?_
      refine aw_iload_n 2 dX11_knock_46 rfl rfl ?_
      refine aw_iconst 1 dX11_knock_47 (by decide) ?_
      refine aw_callVW_U (c11_setRival σ x5 (Int64.toInt32 v_3) x2 1) (io_11 (by decide)) ci_11 (by decide) mk_11_setRival w_1265 w_36 w_1263 rfl rfl (Nat.le_of_ble_eq_true rfl) dX11_knock_48 (fun _ s_4 => ?_)
      refine aw_iinc (ls' := [(0, .ref (ad 11 0 0)), (1, .int x1), (2, .int x2), (3, .int x3), (5, .int (x5 + 1))]) (x5 + 1) 4 [1, 2, 3, 4, 0] dX11_knock_51 rfl (by rfl) (by decide) rfl ?_
      refine aw_goto 24 dX11_knock_54 (by decide) ?_
      exact ih s_4 (x5 + 1)
def F11_knock_p84 (σ : Mem) (x3 : Int32) (x5 : Int32) (q0 : Int32) : Option (Bool × Mem) :=
  bnd (q0 + 1) fun v_7 => (F11_decided σ x3 x5).bind fun v_8 => (F11_decided σ q0 v_7).bind fun v_9 => (F11_decided σ x3 q0).bind fun v_10 => (F11_decided σ x3 v_7).bind fun v_11 => if v_8 = 0 then (bd (F11_deny σ 9) fun v_12 s_13 => some (v_12, s_13)) else (if v_9 = 0 then (bd (F11_deny σ 9) fun v_14 s_15 => some (v_14, s_15)) else (if v_10 = 0 then (bd (F11_deny σ 9) fun v_16 s_17 => some (v_16, s_17)) else (if v_11 = 0 then (bd (F11_deny σ 9) fun v_28 s_29 => some (v_28, s_29)) else ((F11_beats σ q0 v_7).bind fun v_18 => (F11_beats σ x3 q0).bind fun v_19 => bnd ((v_18 * v_19) * v_11) fun v_20 => (F11_beats σ v_7 q0).bind fun v_21 => (F11_beats σ x3 v_7).bind fun v_22 => bnd ((v_21 * v_22) * v_10) fun v_23 => (F11_beats σ x3 x5).bind fun v_24 => bd (F11_tell σ (v_24 * (v_20 + v_23)) (((v_8 * v_9) * v_10) * v_11)) fun _ s_25 => bd (F11_agree s_25) fun v_26 s_27 => some (v_26, s_27)))))
set_option maxRecDepth 20000 in
theorem c11_knock_p84 {l : Launch} {D : va_G} {ad : Nat → Nat → Nat → Nat} {cid : Nat → Nat → Nat → ClassId} (σ : Mem) (x3 : Int32) (x5 : Int32) (q0 : Int32) : AW (XC l D ad cid) M11_knock 6 eB [(0, .ref (ad 11 0 0)), (3, .int x3), (5, .int x5)] 84 [.int q0] σ ((F11_knock_p84 σ x3 x5 q0).bind some) := by
  unfold F11_knock_p84
  refine aw_istore (ls' := [(0, .ref (ad 11 0 0)), (3, .int x3), (5, .int x5), (6, .int q0)]) [1, 2, 3, 0] dX11_knock_84 (by decide) rfl ?_
  refine aw_iload 3 dX11_knock_86 rfl ?_
  refine aw_iconst 1 dX11_knock_88 (by decide) ?_
  refine aw_iadd dX11_knock_89 ?_
  refine aw_bnd_int (fun v_7 => ?_)
  refine aw_istore (ls' := [(0, .ref (ad 11 0 0)), (3, .int x3), (5, .int x5), (6, .int q0), (7, .int v_7)]) [1, 2, 3, 4, 0] dX11_knock_90 (by decide) rfl ?_
  refine aw_aload_n 0 dX11_knock_92 rfl rfl ?_
  refine aw_iload_n 1 dX11_knock_93 rfl rfl ?_
  refine aw_iload 2 dX11_knock_94 rfl ?_
  refine aw_callVO_L (c11_decided σ x3 x5) (io_11 (by decide)) ci_11 (by decide) mk_11_decided w_1294 w_39 w_1292 rfl rfl (Nat.le_of_ble_eq_true rfl) dX11_knock_96 (fun v_8 => ?_)
  refine aw_lstore (ls' := [(0, .ref (ad 11 0 0)), (3, .int x3), (5, .int x5), (6, .int q0), (7, .int v_7), (8, .long v_8)]) [1, 2, 3, 4, 5, 0] dX11_knock_99 (by decide) rfl ?_
  refine aw_aload_n 0 dX11_knock_101 rfl rfl ?_
  refine aw_iload 3 dX11_knock_102 rfl ?_
  refine aw_iload 4 dX11_knock_104 rfl ?_
  refine aw_callVO_L (c11_decided σ q0 v_7) (io_11 (by decide)) ci_11 (by decide) mk_11_decided w_1294 w_39 w_1292 rfl rfl (Nat.le_of_ble_eq_true rfl) dX11_knock_106 (fun v_9 => ?_)
  refine aw_lstore (ls' := [(0, .ref (ad 11 0 0)), (3, .int x3), (5, .int x5), (6, .int q0), (7, .int v_7), (8, .long v_8), (10, .long v_9)]) [1, 2, 3, 4, 5, 6, 0] dX11_knock_109 (by decide) rfl ?_
  refine aw_aload_n 0 dX11_knock_111 rfl rfl ?_
  refine aw_iload_n 1 dX11_knock_112 rfl rfl ?_
  refine aw_iload 3 dX11_knock_113 rfl ?_
  refine aw_callVO_L (c11_decided σ x3 q0) (io_11 (by decide)) ci_11 (by decide) mk_11_decided w_1294 w_39 w_1292 rfl rfl (Nat.le_of_ble_eq_true rfl) dX11_knock_115 (fun v_10 => ?_)
  refine aw_lstore (ls' := [(0, .ref (ad 11 0 0)), (3, .int x3), (5, .int x5), (6, .int q0), (7, .int v_7), (8, .long v_8), (10, .long v_9), (12, .long v_10)]) [1, 2, 3, 4, 5, 6, 7, 0] dX11_knock_118 (by decide) rfl ?_
  refine aw_aload_n 0 dX11_knock_120 rfl rfl ?_
  refine aw_iload_n 1 dX11_knock_121 rfl rfl ?_
  refine aw_iload 4 dX11_knock_122 rfl ?_
  refine aw_callVO_L (c11_decided σ x3 v_7) (io_11 (by decide)) ci_11 (by decide) mk_11_decided w_1294 w_39 w_1292 rfl rfl (Nat.le_of_ble_eq_true rfl) dX11_knock_124 (fun v_11 => ?_)
  refine aw_lstore (ls' := [(0, .ref (ad 11 0 0)), (3, .int x3), (5, .int x5), (6, .int q0), (7, .int v_7), (8, .long v_8), (10, .long v_9), (12, .long v_10), (14, .long v_11)]) [1, 2, 3, 4, 5, 6, 7, 8, 0] dX11_knock_127 (by decide) rfl ?_
  refine aw_lload 5 dX11_knock_129 rfl ?_
  refine aw_lconst 0 dX11_knock_131 (by decide) ?_
  refine aw_lcmp dX11_knock_132 ?_
  refine aw_lif_eq 157 dX11_knock_133 (by decide) ?_ ?_
  · refine aw_aload_n 0 dX11_knock_157 rfl rfl ?_
    refine aw_bipush 9 dX11_knock_158 (by decide) ?_
    refine aw_callVW_B (c11_deny σ 9) (io_11 (by decide)) ci_11 (by decide) mk_11_deny w_802 w_0 w_800 rfl rfl (Nat.le_of_ble_eq_true rfl) dX11_knock_160 (fun v_12 s_13 => ?_)
    exact aw_zreturn (b := v_12) rfl rfl dX11_knock_163
  · refine aw_lload 6 dX11_knock_136 rfl ?_
    refine aw_lconst 0 dX11_knock_138 (by decide) ?_
    refine aw_lcmp dX11_knock_139 ?_
    refine aw_lif_eq 157 dX11_knock_140 (by decide) ?_ ?_
    · refine aw_aload_n 0 dX11_knock_157 rfl rfl ?_
      refine aw_bipush 9 dX11_knock_158 (by decide) ?_
      refine aw_callVW_B (c11_deny σ 9) (io_11 (by decide)) ci_11 (by decide) mk_11_deny w_802 w_0 w_800 rfl rfl (Nat.le_of_ble_eq_true rfl) dX11_knock_160 (fun v_14 s_15 => ?_)
      exact aw_zreturn (b := v_14) rfl rfl dX11_knock_163
    · refine aw_lload 7 dX11_knock_143 rfl ?_
      refine aw_lconst 0 dX11_knock_145 (by decide) ?_
      refine aw_lcmp dX11_knock_146 ?_
      refine aw_lif_eq 157 dX11_knock_147 (by decide) ?_ ?_
      · refine aw_aload_n 0 dX11_knock_157 rfl rfl ?_
        refine aw_bipush 9 dX11_knock_158 (by decide) ?_
        refine aw_callVW_B (c11_deny σ 9) (io_11 (by decide)) ci_11 (by decide) mk_11_deny w_802 w_0 w_800 rfl rfl (Nat.le_of_ble_eq_true rfl) dX11_knock_160 (fun v_16 s_17 => ?_)
        exact aw_zreturn (b := v_16) rfl rfl dX11_knock_163
      · refine aw_lload 8 dX11_knock_150 rfl ?_
        refine aw_lconst 0 dX11_knock_152 (by decide) ?_
        refine aw_lcmp dX11_knock_153 ?_
        refine aw_lif_ne 164 dX11_knock_154 (by decide) ?_ ?_
        · refine aw_aload_n 0 dX11_knock_164 rfl rfl ?_
          refine aw_iload 3 dX11_knock_165 rfl ?_
          refine aw_iload 4 dX11_knock_167 rfl ?_
          refine aw_callVO_L (c11_beats σ q0 v_7) (io_11 (by decide)) ci_11 (by decide) mk_11_beats w_1298 w_40 w_1296 rfl rfl (Nat.le_of_ble_eq_true rfl) dX11_knock_169 (fun v_18 => ?_)
          refine aw_aload_n 0 dX11_knock_172 rfl rfl ?_
          refine aw_iload_n 1 dX11_knock_173 rfl rfl ?_
          refine aw_iload 3 dX11_knock_174 rfl ?_
          refine aw_callVO_L (c11_beats σ x3 q0) (io_11 (by decide)) ci_11 (by decide) mk_11_beats w_1298 w_40 w_1296 rfl rfl (Nat.le_of_ble_eq_true rfl) dX11_knock_176 (fun v_19 => ?_)
          refine aw_lmul dX11_knock_179 ?_
          refine aw_lload 8 dX11_knock_180 rfl ?_
          refine aw_lmul dX11_knock_182 ?_
          refine aw_bnd_long (fun v_20 => ?_)
          refine aw_lstore (ls' := [(0, .ref (ad 11 0 0)), (3, .int x3), (5, .int x5), (6, .int q0), (7, .int v_7), (8, .long v_8), (10, .long v_9), (12, .long v_10), (14, .long v_11), (16, .long v_20)]) [1, 2, 3, 4, 5, 6, 7, 8, 9, 0] dX11_knock_183 (by decide) rfl ?_
          refine aw_aload_n 0 dX11_knock_185 rfl rfl ?_
          refine aw_iload 4 dX11_knock_186 rfl ?_
          refine aw_iload 3 dX11_knock_188 rfl ?_
          refine aw_callVO_L (c11_beats σ v_7 q0) (io_11 (by decide)) ci_11 (by decide) mk_11_beats w_1298 w_40 w_1296 rfl rfl (Nat.le_of_ble_eq_true rfl) dX11_knock_190 (fun v_21 => ?_)
          refine aw_aload_n 0 dX11_knock_193 rfl rfl ?_
          refine aw_iload_n 1 dX11_knock_194 rfl rfl ?_
          refine aw_iload 4 dX11_knock_195 rfl ?_
          refine aw_callVO_L (c11_beats σ x3 v_7) (io_11 (by decide)) ci_11 (by decide) mk_11_beats w_1298 w_40 w_1296 rfl rfl (Nat.le_of_ble_eq_true rfl) dX11_knock_197 (fun v_22 => ?_)
          refine aw_lmul dX11_knock_200 ?_
          refine aw_lload 7 dX11_knock_201 rfl ?_
          refine aw_lmul dX11_knock_203 ?_
          refine aw_bnd_long (fun v_23 => ?_)
          refine aw_lstore (ls' := [(0, .ref (ad 11 0 0)), (3, .int x3), (5, .int x5), (8, .long v_8), (10, .long v_9), (12, .long v_10), (14, .long v_11), (16, .long v_20), (18, .long v_23)]) [1, 2, 3, 6, 7, 8, 9, 10, 0] dX11_knock_204 (by decide) rfl ?_
          refine aw_aload_n 0 dX11_knock_206 rfl rfl ?_
          refine aw_aload_n 0 dX11_knock_207 rfl rfl ?_
          refine aw_iload_n 1 dX11_knock_208 rfl rfl ?_
          refine aw_iload 2 dX11_knock_209 rfl ?_
          refine aw_callVO_L (c11_beats σ x3 x5) (io_11 (by decide)) ci_11 (by decide) mk_11_beats w_1298 w_40 w_1296 rfl rfl (Nat.le_of_ble_eq_true rfl) dX11_knock_211 (fun v_24 => ?_)
          refine aw_lload 7 dX11_knock_214 rfl ?_
          refine aw_lload 8 dX11_knock_216 rfl ?_
          refine aw_ladd dX11_knock_218 ?_
          refine aw_lmul dX11_knock_219 ?_
          refine aw_lload 3 dX11_knock_220 rfl ?_
          refine aw_lload 4 dX11_knock_222 rfl ?_
          refine aw_lmul dX11_knock_224 ?_
          refine aw_lload 5 dX11_knock_225 rfl ?_
          refine aw_lmul dX11_knock_227 ?_
          refine aw_lload 6 dX11_knock_228 rfl ?_
          refine aw_lmul dX11_knock_230 ?_
          refine aw_callVW_U (c11_tell σ (v_24 * (v_20 + v_23)) (((v_8 * v_9) * v_10) * v_11)) (io_11 (by decide)) ci_11 (by decide) mk_11_tell w_1174 w_30 w_1172 rfl rfl (Nat.le_of_ble_eq_true rfl) dX11_knock_231 (fun _ s_25 => ?_)
          refine aw_aload_n 0 dX11_knock_234 rfl rfl ?_
          refine aw_callVW_B (c11_agree s_25 ) (io_11 (by decide)) ci_11 (by decide) mk_11_agree w_813 w_1 w_811 rfl rfl (Nat.le_of_ble_eq_true rfl) dX11_knock_235 (fun v_26 s_27 => ?_)
          exact aw_zreturn (b := v_26) rfl rfl dX11_knock_238
        · refine aw_aload_n 0 dX11_knock_157 rfl rfl ?_
          refine aw_bipush 9 dX11_knock_158 (by decide) ?_
          refine aw_callVW_B (c11_deny σ 9) (io_11 (by decide)) ci_11 (by decide) mk_11_deny w_802 w_0 w_800 rfl rfl (Nat.le_of_ble_eq_true rfl) dX11_knock_160 (fun v_28 s_29 => ?_)
          exact aw_zreturn (b := v_28) rfl rfl dX11_knock_163
def F11_knock_p72 (σ : Mem) (x3 : Int32) (q0 : Int32) : Option (Bool × Mem) :=
  if 2 ≤ x3 then (F11_knock_p84 σ x3 q0 0) else (F11_knock_p84 σ x3 q0 2)
set_option maxRecDepth 20000 in
theorem c11_knock_p72 {l : Launch} {D : va_G} {ad : Nat → Nat → Nat → Nat} {cid : Nat → Nat → Nat → ClassId} (σ : Mem) (x3 : Int32) (q0 : Int32) : AW (XC l D ad cid) M11_knock 6 eB [(0, .ref (ad 11 0 0)), (3, .int x3)] 72 [.int q0] σ ((F11_knock_p72 σ x3 q0).bind some) := by
  unfold F11_knock_p72
  refine aw_istore (ls' := [(0, .ref (ad 11 0 0)), (3, .int x3), (5, .int q0)]) [1, 2, 0] dX11_knock_72 (by decide) rfl ?_
  refine aw_iload_n 1 dX11_knock_74 rfl rfl ?_
  refine aw_iconst 2 dX11_knock_75 (by decide) ?_
  refine aw_icmp_ge 83 dX11_knock_76 (by decide) ?_ ?_
  · refine aw_iconst 0 dX11_knock_83 (by decide) ?_
    exact c11_knock_p84 σ x3 q0 0
  · refine aw_iconst 2 dX11_knock_79 (by decide) ?_
    refine aw_goto 84 dX11_knock_80 (by decide) ?_
    exact c11_knock_p84 σ x3 q0 2
def F11_knock (σ : Mem) (x1 : Int32) (x2 : Int32) (x3 : Int32) : Option (Bool × Mem) :=
  (F11_wrongKnock σ x1 x2 x3).bind fun v_1 => if v_1 = 0 then (bd (F11_knock_L24 x1 x2 x3 fuelK σ 0) fun r_5 s_6 => if (iRem x3 2) = 0 then (F11_knock_p72 s_6 x3 (x3 + 1)) else (F11_knock_p72 s_6 x3 (x3 - 1))) else (bd (F11_deny σ v_1) fun v_30 s_31 => some (v_30, s_31))
set_option maxRecDepth 20000 in
theorem c11_knock {l : Launch} {D : va_G} {ad : Nat → Nat → Nat → Nat} {cid : Nat → Nat → Nat → ClassId} (σ : Mem) (x1 : Int32) (x2 : Int32) (x3 : Int32) : AMF (XC l D ad cid) M11_knock 6 eB [.ref (ad 11 0 0), .int x1, .int x2, .int x3] σ (F11_knock σ x1 x2 x3) := by
  refine AM.ofW (by decide +kernel) (Nat.le_of_ble_eq_true rfl) (ls := [(0, .ref (ad 11 0 0)), (1, .int x1), (2, .int x2), (3, .int x3)]) rfl ?_
  refine aw_entry ?_
  unfold F11_knock
  refine aw_aload_n 0 dX11_knock_0 rfl rfl ?_
  refine aw_iload_n 1 dX11_knock_1 rfl rfl ?_
  refine aw_iload_n 2 dX11_knock_2 rfl rfl ?_
  refine aw_iload_n 3 dX11_knock_3 rfl rfl ?_
  refine aw_callVO_I (c11_wrongKnock σ x1 x2 x3) (io_11 (by decide)) ci_11 (by decide) mk_11_wrongKnock w_1290 w_38 w_1288 rfl rfl (Nat.le_of_ble_eq_true rfl) dX11_knock_4 (fun v_1 => ?_)
  refine aw_istore (ls' := [(0, .ref (ad 11 0 0)), (1, .int x1), (2, .int x2), (3, .int x3), (4, .int v_1)]) [1, 2, 3, 4, 0] dX11_knock_7 (by decide) rfl ?_
  refine aw_iload 4 dX11_knock_9 rfl ?_
  refine aw_if_eq 21 dX11_knock_11 (by decide) ?_ ?_
  · refine aw_iconst 0 dX11_knock_21 (by decide) ?_
    refine aw_istore (ls' := [(0, .ref (ad 11 0 0)), (1, .int x1), (2, .int x2), (3, .int x3), (5, .int 0)]) [1, 2, 3, 4, 0] dX11_knock_22 (by decide) rfl ?_
    refine aw_assocW ?_
    refine c11_knock_L24 x1 x2 x3 (fun r_5 s_6 => ?_) fuelK σ 0
    refine aw_iload_n 1 dX11_knock_57 rfl rfl ?_
    refine aw_iconst 2 dX11_knock_58 (by decide) ?_
    refine aw_irem_c dX11_knock_59 (by decide) ?_
    refine aw_if_ne 69 dX11_knock_60 (by decide) ?_ ?_
    · refine aw_iload_n 1 dX11_knock_69 rfl rfl ?_
      refine aw_iconst 1 dX11_knock_70 (by decide) ?_
      refine aw_isub dX11_knock_71 ?_
      exact c11_knock_p72 s_6 x3 (x3 - 1)
    · refine aw_iload_n 1 dX11_knock_63 rfl rfl ?_
      refine aw_iconst 1 dX11_knock_64 (by decide) ?_
      refine aw_iadd dX11_knock_65 ?_
      refine aw_goto 72 dX11_knock_66 (by decide) ?_
      exact c11_knock_p72 s_6 x3 (x3 + 1)
  · refine aw_aload_n 0 dX11_knock_14 rfl rfl ?_
    refine aw_iload 4 dX11_knock_15 rfl ?_
    refine aw_callVW_B (c11_deny σ v_1) (io_11 (by decide)) ci_11 (by decide) mk_11_deny w_802 w_0 w_800 rfl rfl (Nat.le_of_ble_eq_true rfl) dX11_knock_17 (fun v_30 s_31 => ?_)
    exact aw_zreturn (b := v_30) rfl rfl dX11_knock_20
def F11_hole (σ : Mem) (x1 : Int32) (x2 : Int32) : Option (Int32 × Mem) :=
  if (F11_within x2 0 3) = true then (if (F11_within x1 0 ((gI σ 7 0 0 1) - 1)) = true then (if x2 = 0 then ((ald 60 (gI σ 7 0 1) x1).bind fun v_2 => bd (F11_answer σ v_2) fun v_3 s_4 => some (v_3, s_4)) else if x2 = 1 then ((ald 60 (gI σ 7 0 2) x1).bind fun v_6 => bd (F11_answer σ v_6) fun v_7 s_8 => some (v_7, s_8)) else if x2 = 2 then ((ald 60 (gI σ 7 0 3) x1).bind fun v_10 => bd (F11_answer σ v_10) fun v_11 s_12 => some (v_11, s_12)) else ((ald 60 (gI σ 7 0 4) x1).bind fun v_13 => bd (F11_answer σ v_13) fun v_14 s_15 => some (v_14, s_15))) else (bd (F11_refuse σ 8) fun v_16 s_17 => some (v_16, s_17))) else (bd (F11_refuse σ 5) fun v_18 s_19 => some (v_18, s_19))
set_option maxRecDepth 20000 in
theorem c11_hole {l : Launch} {D : va_G} {ad : Nat → Nat → Nat → Nat} {cid : Nat → Nat → Nat → ClassId} (σ : Mem) (x1 : Int32) (x2 : Int32) : AMF (XC l D ad cid) M11_hole 1 eI [.ref (ad 11 0 0), .int x1, .int x2] σ (F11_hole σ x1 x2) := by
  refine AM.ofW (by decide +kernel) (Nat.le_of_ble_eq_true rfl) (ls := [(0, .ref (ad 11 0 0)), (1, .int x1), (2, .int x2)]) rfl ?_
  refine aw_entry ?_
  unfold F11_hole
  refine aw_iload_n 2 dX11_hole_0 rfl rfl ?_
  refine aw_iconst 0 dX11_hole_1 (by decide) ?_
  refine aw_iconst 3 dX11_hole_2 (by decide) ?_
  refine aw_callST_B (c11_within σ x2 0 3) (by decide) mk_11_within w_798 w_797 rfl rfl (Nat.le_of_ble_eq_true rfl) dX11_hole_3 ?_
  refine aw_bif_ne 15 dX11_hole_6 (by decide) ?_ ?_
  · refine aw_iload_n 1 dX11_hole_15 rfl rfl ?_
    refine aw_iconst 0 dX11_hole_16 (by decide) ?_
    refine aw_aload_n 0 dX11_hole_17 rfl rfl ?_
    refine aw_getf (fg_11_9 (by decide)) ci_11 (by decide) w_726 dX11_hole_18 ?_
    refine aw_getf (fg_7_1 (by decide)) ci_7 (by decide) w_465 dX11_hole_21 ?_
    refine aw_iconst 1 dX11_hole_24 (by decide) ?_
    refine aw_isub dX11_hole_25 ?_
    refine aw_callST_B (c11_within σ x1 0 ((gI σ 7 0 0 1) - 1)) (by decide) mk_11_within w_798 w_797 rfl rfl (Nat.le_of_ble_eq_true rfl) dX11_hole_26 ?_
    refine aw_bif_ne 39 dX11_hole_29 (by decide) ?_ ?_
    · refine aw_iload_n 2 dX11_hole_39 rfl rfl ?_
      refine aw_case (c := 0) (fun h_1 => ?_) (fun h_1 => ?_)
      · refine aw_tabIn 68 h_1 dX11_hole_40 (by decide) (by decide) rfl (by decide) ?_
        refine aw_aload_n 0 dX11_hole_68 rfl rfl ?_
        refine aw_aload_n 0 dX11_hole_69 rfl rfl ?_
        refine aw_getf (fg_11_9 (by decide)) ci_11 (by decide) w_726 dX11_hole_70 ?_
        refine aw_getf (fg_7_2 (by decide)) ci_7 (by decide) w_467 dX11_hole_73 ?_
        refine aw_iload_n 1 dX11_hole_76 rfl rfl ?_
        refine aw_iaload (ar_7_1 (by decide)) dX11_hole_77 (fun v_2 => ?_)
        refine aw_callVW_I (c11_answer σ v_2) (io_11 (by decide)) ci_11 (by decide) mk_11_answer w_975 w_15 w_973 rfl rfl (Nat.le_of_ble_eq_true rfl) dX11_hole_78 (fun v_3 s_4 => ?_)
        exact aw_ireturn rfl dX11_hole_81
      refine aw_case (c := 1) (fun h_5 => ?_) (fun h_5 => ?_)
      · refine aw_tabIn 82 h_5 dX11_hole_40 (by decide) (by decide) rfl (by decide) ?_
        refine aw_aload_n 0 dX11_hole_82 rfl rfl ?_
        refine aw_aload_n 0 dX11_hole_83 rfl rfl ?_
        refine aw_getf (fg_11_9 (by decide)) ci_11 (by decide) w_726 dX11_hole_84 ?_
        refine aw_getf (fg_7_3 (by decide)) ci_7 (by decide) w_469 dX11_hole_87 ?_
        refine aw_iload_n 1 dX11_hole_90 rfl rfl ?_
        refine aw_iaload (ar_7_2 (by decide)) dX11_hole_91 (fun v_6 => ?_)
        refine aw_callVW_I (c11_answer σ v_6) (io_11 (by decide)) ci_11 (by decide) mk_11_answer w_975 w_15 w_973 rfl rfl (Nat.le_of_ble_eq_true rfl) dX11_hole_92 (fun v_7 s_8 => ?_)
        exact aw_ireturn rfl dX11_hole_95
      refine aw_case (c := 2) (fun h_9 => ?_) (fun h_9 => ?_)
      · refine aw_tabIn 96 h_9 dX11_hole_40 (by decide) (by decide) rfl (by decide) ?_
        refine aw_aload_n 0 dX11_hole_96 rfl rfl ?_
        refine aw_aload_n 0 dX11_hole_97 rfl rfl ?_
        refine aw_getf (fg_11_9 (by decide)) ci_11 (by decide) w_726 dX11_hole_98 ?_
        refine aw_getf (fg_7_4 (by decide)) ci_7 (by decide) w_471 dX11_hole_101 ?_
        refine aw_iload_n 1 dX11_hole_104 rfl rfl ?_
        refine aw_iaload (ar_7_3 (by decide)) dX11_hole_105 (fun v_10 => ?_)
        refine aw_callVW_I (c11_answer σ v_10) (io_11 (by decide)) ci_11 (by decide) mk_11_answer w_975 w_15 w_973 rfl rfl (Nat.le_of_ble_eq_true rfl) dX11_hole_106 (fun v_11 s_12 => ?_)
        exact aw_ireturn rfl dX11_hole_109
      refine aw_tabOut 110 dX11_hole_40 (by have eh_1 : x2.toInt ≠ 0 := ne_toInt h_1; have eh_5 : x2.toInt ≠ 1 := ne_toInt h_5; have eh_9 : x2.toInt ≠ 2 := ne_toInt h_9; omega) (by decide) ?_
      refine aw_aload_n 0 dX11_hole_110 rfl rfl ?_
      refine aw_aload_n 0 dX11_hole_111 rfl rfl ?_
      refine aw_getf (fg_11_9 (by decide)) ci_11 (by decide) w_726 dX11_hole_112 ?_
      refine aw_getf (fg_7_5 (by decide)) ci_7 (by decide) w_473 dX11_hole_115 ?_
      refine aw_iload_n 1 dX11_hole_118 rfl rfl ?_
      refine aw_iaload (ar_7_4 (by decide)) dX11_hole_119 (fun v_13 => ?_)
      refine aw_callVW_I (c11_answer σ v_13) (io_11 (by decide)) ci_11 (by decide) mk_11_answer w_975 w_15 w_973 rfl rfl (Nat.le_of_ble_eq_true rfl) dX11_hole_120 (fun v_14 s_15 => ?_)
      exact aw_ireturn rfl dX11_hole_123
    · refine aw_aload_n 0 dX11_hole_32 rfl rfl ?_
      refine aw_bipush 8 dX11_hole_33 (by decide) ?_
      refine aw_callVW_I (c11_refuse σ 8) (io_11 (by decide)) ci_11 (by decide) mk_11_refuse w_838 w_3 w_836 rfl rfl (Nat.le_of_ble_eq_true rfl) dX11_hole_35 (fun v_16 s_17 => ?_)
      exact aw_ireturn rfl dX11_hole_38
  · refine aw_aload_n 0 dX11_hole_9 rfl rfl ?_
    refine aw_iconst 5 dX11_hole_10 (by decide) ?_
    refine aw_callVW_I (c11_refuse σ 5) (io_11 (by decide)) ci_11 (by decide) mk_11_refuse w_838 w_3 w_836 rfl rfl (Nat.le_of_ble_eq_true rfl) dX11_hole_11 (fun v_18 s_19 => ?_)
    exact aw_ireturn rfl dX11_hole_14
def F7_spreadTop (σ : Mem) (t0 : Nat) : Int64 :=
  ((((Int32.toInt64 (gI σ 7 t0 0 7)) * (gL σ 7 t0 0 10)) - ((gL σ 7 t0 0 8) * (gL σ 7 t0 0 8))) - ((gL σ 7 t0 0 9) * (gL σ 7 t0 0 9)))
set_option maxRecDepth 20000 in
theorem c7_spreadTop {l : Launch} {D : va_G} {ad : Nat → Nat → Nat → Nat} {cid : Nat → Nat → Nat → ClassId} (σ : Mem) (t0 : Nat) (ht0 : t0 < 5) : AMF (XC l D ad cid) M7_spreadTop 0 eL [.ref (ad 7 t0 0)] σ (some (F7_spreadTop σ t0, σ)) := by
  refine AM.ofW (by decide +kernel) (Nat.le_of_ble_eq_true rfl) (ls := [(0, .ref (ad 7 t0 0))]) rfl ?_
  refine aw_entryT ?_
  unfold F7_spreadTop
  refine aw_aload_n 0 dX7_spreadTop_0 rfl rfl ?_
  refine aw_getf (fg_7_7 (by omega)) ci_7 (by decide) w_477 dX7_spreadTop_1 ?_
  refine aw_i2l dX7_spreadTop_4 ?_
  refine aw_aload_n 0 dX7_spreadTop_5 rfl rfl ?_
  refine aw_getf (fg_7_10 (by omega)) ci_7 (by decide) w_483 dX7_spreadTop_6 ?_
  refine aw_lmul dX7_spreadTop_9 ?_
  refine aw_aload_n 0 dX7_spreadTop_10 rfl rfl ?_
  refine aw_getf (fg_7_8 (by omega)) ci_7 (by decide) w_479 dX7_spreadTop_11 ?_
  refine aw_aload_n 0 dX7_spreadTop_14 rfl rfl ?_
  refine aw_getf (fg_7_8 (by omega)) ci_7 (by decide) w_479 dX7_spreadTop_15 ?_
  refine aw_lmul dX7_spreadTop_18 ?_
  refine aw_lsub dX7_spreadTop_19 ?_
  refine aw_aload_n 0 dX7_spreadTop_20 rfl rfl ?_
  refine aw_getf (fg_7_9 (by omega)) ci_7 (by decide) w_481 dX7_spreadTop_21 ?_
  refine aw_aload_n 0 dX7_spreadTop_24 rfl rfl ?_
  refine aw_getf (fg_7_9 (by omega)) ci_7 (by decide) w_481 dX7_spreadTop_25 ?_
  refine aw_lmul dX7_spreadTop_28 ?_
  refine aw_lsub dX7_spreadTop_29 ?_
  exact aw_lreturn rfl dX7_spreadTop_30
def F7_spreadBottom (σ : Mem) (t0 : Nat) : Int64 :=
  ((Int32.toInt64 (gI σ 7 t0 0 7)) * (Int32.toInt64 (gI σ 7 t0 0 7)))
set_option maxRecDepth 20000 in
theorem c7_spreadBottom {l : Launch} {D : va_G} {ad : Nat → Nat → Nat → Nat} {cid : Nat → Nat → Nat → ClassId} (σ : Mem) (t0 : Nat) (ht0 : t0 < 5) : AMF (XC l D ad cid) M7_spreadBottom 0 eL [.ref (ad 7 t0 0)] σ (some (F7_spreadBottom σ t0, σ)) := by
  refine AM.ofW (by decide +kernel) (Nat.le_of_ble_eq_true rfl) (ls := [(0, .ref (ad 7 t0 0))]) rfl ?_
  refine aw_entryT ?_
  unfold F7_spreadBottom
  refine aw_aload_n 0 dX7_spreadBottom_0 rfl rfl ?_
  refine aw_getf (fg_7_7 (by omega)) ci_7 (by decide) w_477 dX7_spreadBottom_1 ?_
  refine aw_i2l dX7_spreadBottom_4 ?_
  refine aw_aload_n 0 dX7_spreadBottom_5 rfl rfl ?_
  refine aw_getf (fg_7_7 (by omega)) ci_7 (by decide) w_477 dX7_spreadBottom_6 ?_
  refine aw_i2l dX7_spreadBottom_9 ?_
  refine aw_lmul dX7_spreadBottom_10 ?_
  exact aw_lreturn rfl dX7_spreadBottom_11
def F11_lean_p32 (σ : Mem) (x1 : Int32) (x2 : Int32) (x3 : Int32) : Option (Bool × Mem) :=
  if (F11_within x3 0 2) = true then (bd (F7_gather σ 0 x1 x2) fun _ s_1 => if (gI s_1 7 0 0 7) = 0 then (bd (F11_deny s_1 8) fun v_11 s_12 => some (v_11, s_12)) else (if x3 = 0 then (bd (F11_tell s_1 (gL s_1 7 0 0 8) (Int32.toInt64 (gI s_1 7 0 0 7))) fun _ s_8 => bd (F11_agree s_8) fun v_9 s_10 => some (v_9, s_10)) else (if x3 = 1 then (bd (F11_tell s_1 (gL s_1 7 0 0 9) (Int32.toInt64 (gI s_1 7 0 0 7))) fun _ s_5 => bd (F11_agree s_5) fun v_6 s_7 => some (v_6, s_7)) else (bd (F11_tell s_1 (F7_spreadTop s_1 0) (F7_spreadBottom s_1 0)) fun _ s_2 => bd (F11_agree s_2) fun v_3 s_4 => some (v_3, s_4))))) else (bd (F11_deny σ 5) fun v_13 s_14 => some (v_13, s_14))
set_option maxRecDepth 20000 in
theorem c11_lean_p32 {l : Launch} {D : va_G} {ad : Nat → Nat → Nat → Nat} {cid : Nat → Nat → Nat → ClassId} (σ : Mem) (x1 : Int32) (x2 : Int32) (x3 : Int32) : AW (XC l D ad cid) M11_lean 2 eB [(0, .ref (ad 11 0 0)), (1, .int x1), (2, .int x2), (3, .int x3)] 32 [] σ ((F11_lean_p32 σ x1 x2 x3).bind some) := by
  unfold F11_lean_p32
  refine aw_iload_n 3 dX11_lean_32 rfl rfl ?_
  refine aw_iconst 0 dX11_lean_33 (by decide) ?_
  refine aw_iconst 2 dX11_lean_34 (by decide) ?_
  refine aw_callST_B (c11_within σ x3 0 2) (by decide) mk_11_within w_798 w_797 rfl rfl (Nat.le_of_ble_eq_true rfl) dX11_lean_35 ?_
  refine aw_bif_ne 47 dX11_lean_38 (by decide) ?_ ?_
  · refine aw_aload_n 0 dX11_lean_47 rfl rfl ?_
    refine aw_getf (fg_11_9 (by decide)) ci_11 (by decide) w_726 dX11_lean_48 ?_
    refine aw_iload_n 1 dX11_lean_51 rfl rfl ?_
    refine aw_iload_n 2 dX11_lean_52 rfl rfl ?_
    refine aw_callVW_U (c7_gather σ 0 (by decide) x1 x2) (io_7 (by decide)) ci_7 (by decide) mk_7_gather w_1067 w_1068 w_1066 rfl rfl (Nat.le_of_ble_eq_true rfl) dX11_lean_53 (fun _ s_1 => ?_)
    refine aw_aload_n 0 dX11_lean_56 rfl rfl ?_
    refine aw_getf (fg_11_9 (by decide)) ci_11 (by decide) w_726 dX11_lean_57 ?_
    refine aw_getf (fg_7_7 (by decide)) ci_7 (by decide) w_478 dX11_lean_60 ?_
    refine aw_if_ne 73 dX11_lean_63 (by decide) ?_ ?_
    · refine aw_iload_n 3 dX11_lean_73 rfl rfl ?_
      refine aw_if_ne 99 dX11_lean_74 (by decide) ?_ ?_
      · refine aw_iload_n 3 dX11_lean_99 rfl rfl ?_
        refine aw_iconst 1 dX11_lean_100 (by decide) ?_
        refine aw_icmp_ne 126 dX11_lean_101 (by decide) ?_ ?_
        · refine aw_aload_n 0 dX11_lean_126 rfl rfl ?_
          refine aw_aload_n 0 dX11_lean_127 rfl rfl ?_
          refine aw_getf (fg_11_9 (by decide)) ci_11 (by decide) w_726 dX11_lean_128 ?_
          refine aw_callVT_L (c7_spreadTop s_1 0 (by decide)) (io_7 (by decide)) ci_7 (by decide) mk_7_spreadTop w_1309 w_1310 w_1308 rfl rfl (Nat.le_of_ble_eq_true rfl) dX11_lean_131 ?_
          refine aw_aload_n 0 dX11_lean_134 rfl rfl ?_
          refine aw_getf (fg_11_9 (by decide)) ci_11 (by decide) w_726 dX11_lean_135 ?_
          refine aw_callVT_L (c7_spreadBottom s_1 0 (by decide)) (io_7 (by decide)) ci_7 (by decide) mk_7_spreadBottom w_1313 w_1314 w_1312 rfl rfl (Nat.le_of_ble_eq_true rfl) dX11_lean_138 ?_
          refine aw_callVW_U (c11_tell s_1 (F7_spreadTop s_1 0) (F7_spreadBottom s_1 0)) (io_11 (by decide)) ci_11 (by decide) mk_11_tell w_1174 w_30 w_1172 rfl rfl (Nat.le_of_ble_eq_true rfl) dX11_lean_141 (fun _ s_2 => ?_)
          refine aw_aload_n 0 dX11_lean_144 rfl rfl ?_
          refine aw_callVW_B (c11_agree s_2 ) (io_11 (by decide)) ci_11 (by decide) mk_11_agree w_813 w_1 w_811 rfl rfl (Nat.le_of_ble_eq_true rfl) dX11_lean_145 (fun v_3 s_4 => ?_)
          exact aw_zreturn (b := v_3) rfl rfl dX11_lean_148
        · refine aw_aload_n 0 dX11_lean_104 rfl rfl ?_
          refine aw_aload_n 0 dX11_lean_105 rfl rfl ?_
          refine aw_getf (fg_11_9 (by decide)) ci_11 (by decide) w_726 dX11_lean_106 ?_
          refine aw_getf (fg_7_9 (by decide)) ci_7 (by decide) w_482 dX11_lean_109 ?_
          refine aw_aload_n 0 dX11_lean_112 rfl rfl ?_
          refine aw_getf (fg_11_9 (by decide)) ci_11 (by decide) w_726 dX11_lean_113 ?_
          refine aw_getf (fg_7_7 (by decide)) ci_7 (by decide) w_478 dX11_lean_116 ?_
          refine aw_i2l dX11_lean_119 ?_
          refine aw_callVW_U (c11_tell s_1 (gL s_1 7 0 0 9) (Int32.toInt64 (gI s_1 7 0 0 7))) (io_11 (by decide)) ci_11 (by decide) mk_11_tell w_1174 w_30 w_1172 rfl rfl (Nat.le_of_ble_eq_true rfl) dX11_lean_120 (fun _ s_5 => ?_)
          refine aw_goto 144 dX11_lean_123 (by decide) ?_
          refine aw_aload_n 0 dX11_lean_144 rfl rfl ?_
          refine aw_callVW_B (c11_agree s_5 ) (io_11 (by decide)) ci_11 (by decide) mk_11_agree w_813 w_1 w_811 rfl rfl (Nat.le_of_ble_eq_true rfl) dX11_lean_145 (fun v_6 s_7 => ?_)
          exact aw_zreturn (b := v_6) rfl rfl dX11_lean_148
      · refine aw_aload_n 0 dX11_lean_77 rfl rfl ?_
        refine aw_aload_n 0 dX11_lean_78 rfl rfl ?_
        refine aw_getf (fg_11_9 (by decide)) ci_11 (by decide) w_726 dX11_lean_79 ?_
        refine aw_getf (fg_7_8 (by decide)) ci_7 (by decide) w_480 dX11_lean_82 ?_
        refine aw_aload_n 0 dX11_lean_85 rfl rfl ?_
        refine aw_getf (fg_11_9 (by decide)) ci_11 (by decide) w_726 dX11_lean_86 ?_
        refine aw_getf (fg_7_7 (by decide)) ci_7 (by decide) w_478 dX11_lean_89 ?_
        refine aw_i2l dX11_lean_92 ?_
        refine aw_callVW_U (c11_tell s_1 (gL s_1 7 0 0 8) (Int32.toInt64 (gI s_1 7 0 0 7))) (io_11 (by decide)) ci_11 (by decide) mk_11_tell w_1174 w_30 w_1172 rfl rfl (Nat.le_of_ble_eq_true rfl) dX11_lean_93 (fun _ s_8 => ?_)
        refine aw_goto 144 dX11_lean_96 (by decide) ?_
        refine aw_aload_n 0 dX11_lean_144 rfl rfl ?_
        refine aw_callVW_B (c11_agree s_8 ) (io_11 (by decide)) ci_11 (by decide) mk_11_agree w_813 w_1 w_811 rfl rfl (Nat.le_of_ble_eq_true rfl) dX11_lean_145 (fun v_9 s_10 => ?_)
        exact aw_zreturn (b := v_9) rfl rfl dX11_lean_148
    · refine aw_aload_n 0 dX11_lean_66 rfl rfl ?_
      refine aw_bipush 8 dX11_lean_67 (by decide) ?_
      refine aw_callVW_B (c11_deny s_1 8) (io_11 (by decide)) ci_11 (by decide) mk_11_deny w_802 w_0 w_800 rfl rfl (Nat.le_of_ble_eq_true rfl) dX11_lean_69 (fun v_11 s_12 => ?_)
      exact aw_zreturn (b := v_11) rfl rfl dX11_lean_72
  · refine aw_aload_n 0 dX11_lean_41 rfl rfl ?_
    refine aw_iconst 5 dX11_lean_42 (by decide) ?_
    refine aw_callVW_B (c11_deny σ 5) (io_11 (by decide)) ci_11 (by decide) mk_11_deny w_802 w_0 w_800 rfl rfl (Nat.le_of_ble_eq_true rfl) dX11_lean_43 (fun v_13 s_14 => ?_)
    exact aw_zreturn (b := v_13) rfl rfl dX11_lean_46
def F11_lean_p13 (σ : Mem) (x1 : Int32) (x2 : Int32) (x3 : Int32) : Option (Bool × Mem) :=
  if x2 = (-1) then (F11_lean_p32 σ x1 x2 x3) else ((F11_isPea σ x2).bind fun v_15 => if v_15 = true then (F11_lean_p32 σ x1 x2 x3) else (bd (F11_deny σ 2) fun v_16 s_17 => some (v_16, s_17)))
set_option maxRecDepth 20000 in
theorem c11_lean_p13 {l : Launch} {D : va_G} {ad : Nat → Nat → Nat → Nat} {cid : Nat → Nat → Nat → ClassId} (σ : Mem) (x1 : Int32) (x2 : Int32) (x3 : Int32) : AW (XC l D ad cid) M11_lean 2 eB [(0, .ref (ad 11 0 0)), (1, .int x1), (2, .int x2), (3, .int x3)] 13 [] σ ((F11_lean_p13 σ x1 x2 x3).bind some) := by
  unfold F11_lean_p13
  refine aw_iload_n 2 dX11_lean_13 rfl rfl ?_
  refine aw_iconst (-1) dX11_lean_14 (by decide) ?_
  refine aw_icmp_eq 32 dX11_lean_15 (by decide) ?_ ?_
  · exact c11_lean_p32 σ x1 x2 x3
  · refine aw_aload_n 0 dX11_lean_18 rfl rfl ?_
    refine aw_iload_n 2 dX11_lean_19 rfl rfl ?_
    refine aw_callVO_B (c11_isPea σ x2) (io_11 (by decide)) ci_11 (by decide) mk_11_isPea w_1047 w_22 w_1045 rfl rfl (Nat.le_of_ble_eq_true rfl) dX11_lean_20 (fun v_15 => ?_)
    refine aw_bif_ne 32 dX11_lean_23 (by decide) ?_ ?_
    · exact c11_lean_p32 σ x1 x2 x3
    · refine aw_aload_n 0 dX11_lean_26 rfl rfl ?_
      refine aw_iconst 2 dX11_lean_27 (by decide) ?_
      refine aw_callVW_B (c11_deny σ 2) (io_11 (by decide)) ci_11 (by decide) mk_11_deny w_802 w_0 w_800 rfl rfl (Nat.le_of_ble_eq_true rfl) dX11_lean_28 (fun v_16 s_17 => ?_)
      exact aw_zreturn (b := v_16) rfl rfl dX11_lean_31
def F11_lean (σ : Mem) (x1 : Int32) (x2 : Int32) (x3 : Int32) : Option (Bool × Mem) :=
  if x1 = (-1) then (F11_lean_p13 σ x1 x2 x3) else ((F11_isShooter σ x1).bind fun v_18 => if v_18 = true then (F11_lean_p13 σ x1 x2 x3) else (bd (F11_deny σ 2) fun v_19 s_20 => some (v_19, s_20)))
set_option maxRecDepth 20000 in
theorem c11_lean {l : Launch} {D : va_G} {ad : Nat → Nat → Nat → Nat} {cid : Nat → Nat → Nat → ClassId} (σ : Mem) (x1 : Int32) (x2 : Int32) (x3 : Int32) : AMF (XC l D ad cid) M11_lean 2 eB [.ref (ad 11 0 0), .int x1, .int x2, .int x3] σ (F11_lean σ x1 x2 x3) := by
  refine AM.ofW (by decide +kernel) (Nat.le_of_ble_eq_true rfl) (ls := [(0, .ref (ad 11 0 0)), (1, .int x1), (2, .int x2), (3, .int x3)]) rfl ?_
  refine aw_entry ?_
  unfold F11_lean
  refine aw_iload_n 1 dX11_lean_0 rfl rfl ?_
  refine aw_iconst (-1) dX11_lean_1 (by decide) ?_
  refine aw_icmp_eq 13 dX11_lean_2 (by decide) ?_ ?_
  · exact c11_lean_p13 σ x1 x2 x3
  · refine aw_aload_n 0 dX11_lean_5 rfl rfl ?_
    refine aw_iload_n 1 dX11_lean_6 rfl rfl ?_
    refine aw_callVO_B (c11_isShooter σ x1) (io_11 (by decide)) ci_11 (by decide) mk_11_isShooter w_1064 w_23 w_1062 rfl rfl (Nat.le_of_ble_eq_true rfl) dX11_lean_7 (fun v_18 => ?_)
    refine aw_bif_eq 26 dX11_lean_10 (by decide) ?_ ?_
    · refine aw_aload_n 0 dX11_lean_26 rfl rfl ?_
      refine aw_iconst 2 dX11_lean_27 (by decide) ?_
      refine aw_callVW_B (c11_deny σ 2) (io_11 (by decide)) ci_11 (by decide) mk_11_deny w_802 w_0 w_800 rfl rfl (Nat.le_of_ble_eq_true rfl) dX11_lean_28 (fun v_19 s_20 => ?_)
      exact aw_zreturn (b := v_19) rfl rfl dX11_lean_31
    · exact c11_lean_p13 σ x1 x2 x3
def F7_distanceTop (σ : Mem) (t0 : Nat) (x1 : Int32) (x2 : Int32) : Int64 :=
  bnd (((Int32.toInt64 (gI σ 7 t0 0 7)) * (Int32.toInt64 x1)) - (gL σ 7 t0 0 8)) fun v_1 => bnd (((Int32.toInt64 (gI σ 7 t0 0 7)) * (Int32.toInt64 x2)) - (gL σ 7 t0 0 9)) fun v_2 => ((v_1 * v_1) + (v_2 * v_2))
set_option maxRecDepth 20000 in
theorem c7_distanceTop {l : Launch} {D : va_G} {ad : Nat → Nat → Nat → Nat} {cid : Nat → Nat → Nat → ClassId} (σ : Mem) (t0 : Nat) (ht0 : t0 < 5) (x1 : Int32) (x2 : Int32) : AMF (XC l D ad cid) M7_distanceTop 0 eL [.ref (ad 7 t0 0), .int x1, .int x2] σ (some (F7_distanceTop σ t0 x1 x2, σ)) := by
  refine AM.ofW (by decide +kernel) (Nat.le_of_ble_eq_true rfl) (ls := [(0, .ref (ad 7 t0 0)), (1, .int x1), (2, .int x2)]) rfl ?_
  refine aw_entryT ?_
  unfold F7_distanceTop
  refine aw_aload_n 0 dX7_distanceTop_0 rfl rfl ?_
  refine aw_getf (fg_7_7 (by omega)) ci_7 (by decide) w_477 dX7_distanceTop_1 ?_
  refine aw_i2l dX7_distanceTop_4 ?_
  refine aw_iload_n 1 dX7_distanceTop_5 rfl rfl ?_
  refine aw_i2l dX7_distanceTop_6 ?_
  refine aw_lmul dX7_distanceTop_7 ?_
  refine aw_aload_n 0 dX7_distanceTop_8 rfl rfl ?_
  refine aw_getf (fg_7_8 (by omega)) ci_7 (by decide) w_479 dX7_distanceTop_9 ?_
  refine aw_lsub dX7_distanceTop_12 ?_
  refine aw_bndT_long (fun v_1 => ?_)
  refine aw_lstore_n (ls' := [(0, .ref (ad 7 t0 0)), (2, .int x2), (3, .long v_1)]) [1, 3, 0] dX7_distanceTop_13 rfl (by decide) rfl ?_
  refine aw_aload_n 0 dX7_distanceTop_14 rfl rfl ?_
  refine aw_getf (fg_7_7 (by omega)) ci_7 (by decide) w_477 dX7_distanceTop_15 ?_
  refine aw_i2l dX7_distanceTop_18 ?_
  refine aw_iload_n 1 dX7_distanceTop_19 rfl rfl ?_
  refine aw_i2l dX7_distanceTop_20 ?_
  refine aw_lmul dX7_distanceTop_21 ?_
  refine aw_aload_n 0 dX7_distanceTop_22 rfl rfl ?_
  refine aw_getf (fg_7_9 (by omega)) ci_7 (by decide) w_481 dX7_distanceTop_23 ?_
  refine aw_lsub dX7_distanceTop_26 ?_
  refine aw_bndT_long (fun v_2 => ?_)
  refine aw_lstore (ls' := [(3, .long v_1), (5, .long v_2)]) [3, 0] dX7_distanceTop_27 (by decide) rfl ?_
  refine aw_lload_n 0 dX7_distanceTop_29 rfl rfl ?_
  refine aw_lload_n 0 dX7_distanceTop_30 rfl rfl ?_
  refine aw_lmul dX7_distanceTop_31 ?_
  refine aw_lload 1 dX7_distanceTop_32 rfl ?_
  refine aw_lload 1 dX7_distanceTop_34 rfl ?_
  refine aw_lmul dX7_distanceTop_36 ?_
  refine aw_ladd dX7_distanceTop_37 ?_
  exact aw_lreturn rfl dX7_distanceTop_38
def F11_whose_L37 (x1 : Int32) (x2 : Int32) : Nat → Mem → Int32 → Option ((Unit) × Mem)
  | 0 => fun _ _ => none
  | n + 1 => fun σ x3 =>
    gd 5 (gR σ 11 0 0 5) fun t_4 => if (gI σ 9 t_4 0 13) ≤ x3 then (some ((), σ)) else (bd (F7_gather σ 0 x3 (-1)) fun _ s_5 => if (gI s_5 7 0 0 7) ≤ 0 then ((F11_whose_L37 x1 x2 n) s_5 (x3 + 1)) else (bd (F1_offer s_5 x3 (-(F7_distanceTop s_5 0 x1 x2)) (F7_spreadBottom s_5 0)) fun _ s_6 => (F11_whose_L37 x1 x2 n) s_6 (x3 + 1)))
set_option maxRecDepth 20000 in
theorem c11_whose_L37 {l : Launch} {D : va_G} {ad : Nat → Nat → Nat → Nat} {cid : Nat → Nat → Nat → ClassId} {α : Type} {emb : α → Option Value} (x1 : Int32) (x2 : Int32) {G : Unit → Mem → Option (α × Mem)} (kx : ∀ r σ, AW (XC l D ad cid) M11_whose 1 emb [(0, .ref (ad 11 0 0))] 98 [] σ (G r σ)) : ∀ (n : Nat) (σ : Mem) (x3 : Int32), AW (XC l D ad cid) M11_whose 1 emb [(0, .ref (ad 11 0 0)), (1, .int x1), (2, .int x2), (3, .int x3)] 37 [] σ (bd (F11_whose_L37 x1 x2 n σ x3) G) := by
  intro n
  induction n with
  | zero => intros; exact aw_none
  | succ n ih =>
    intro σ x3
    refine aw_bdB ?_
    rw [F11_whose_L37.eq_2]
    refine aw_iload_n 3 dX11_whose_37 rfl rfl ?_
    refine aw_aload_n 0 dX11_whose_38 rfl rfl ?_
    refine aw_getf (fg_11_5 (by decide)) ci_11 (by decide) w_722 dX11_whose_39 ?_
    refine aw_gd (n := 5) (fun t_4 ht_4 => ?_)
    refine aw_getf (fg_9_13 (by omega)) ci_9 (by decide) w_353 dX11_whose_42 ?_
    refine aw_icmp_ge 98 dX11_whose_45 (by decide) ?_ ?_
    · refine aw_ls (ls' := [(0, .ref (ad 11 0 0))]) [0] rfl ?_
      exact kx () σ
    · refine aw_aload_n 0 dX11_whose_48 rfl rfl ?_
      refine aw_getf (fg_11_9 (by decide)) ci_11 (by decide) w_726 dX11_whose_49 ?_
      refine aw_iload_n 3 dX11_whose_52 rfl rfl ?_
      refine aw_iconst (-1) dX11_whose_53 (by decide) ?_
      refine aw_callVW_U (c7_gather σ 0 (by decide) x3 (-1)) (io_7 (by decide)) ci_7 (by decide) mk_7_gather w_1067 w_1068 w_1066 rfl rfl (Nat.le_of_ble_eq_true rfl) dX11_whose_54 (fun _ s_5 => ?_)
      refine aw_aload_n 0 dX11_whose_57 rfl rfl ?_
      refine aw_getf (fg_11_9 (by decide)) ci_11 (by decide) w_726 dX11_whose_58 ?_
      refine aw_getf (fg_7_7 (by decide)) ci_7 (by decide) w_478 dX11_whose_61 ?_
      refine aw_if_le 92 dX11_whose_64 (by decide) ?_ ?_
      · refine aw_iinc (ls' := [(0, .ref (ad 11 0 0)), (1, .int x1), (2, .int x2), (3, .int (x3 + 1))]) (x3 + 1) 3 [1, 2, 3, 0] dX11_whose_92 rfl (by rfl) (by decide) rfl ?_
        refine aw_goto 37 dX11_whose_95 (by decide) ?_
        exact ih s_5 (x3 + 1)
      · refine aw_aload_n 0 dX11_whose_67 rfl rfl ?_
        refine aw_getf (fg_11_17 (by decide)) ci_11 (by decide) w_734 dX11_whose_68 ?_
        refine aw_iload_n 3 dX11_whose_71 rfl rfl ?_
        refine aw_aload_n 0 dX11_whose_72 rfl rfl ?_
        refine aw_getf (fg_11_9 (by decide)) ci_11 (by decide) w_726 dX11_whose_73 ?_
        refine aw_iload_n 1 dX11_whose_76 rfl rfl ?_
        refine aw_iload_n 2 dX11_whose_77 rfl rfl ?_
        refine aw_callVT_L (c7_distanceTop s_5 0 (by decide) x1 x2) (io_7 (by decide)) ci_7 (by decide) mk_7_distanceTop w_1321 w_1322 w_1320 rfl rfl (Nat.le_of_ble_eq_true rfl) dX11_whose_78 ?_
        refine aw_lneg dX11_whose_81 ?_
        refine aw_aload_n 0 dX11_whose_82 rfl rfl ?_
        refine aw_getf (fg_11_9 (by decide)) ci_11 (by decide) w_726 dX11_whose_83 ?_
        refine aw_callVT_L (c7_spreadBottom s_5 0 (by decide)) (io_7 (by decide)) ci_7 (by decide) mk_7_spreadBottom w_1313 w_1314 w_1312 rfl rfl (Nat.le_of_ble_eq_true rfl) dX11_whose_86 ?_
        refine aw_callVW_U (c1_offer s_5 x3 (-(F7_distanceTop s_5 0 x1 x2)) (F7_spreadBottom s_5 0)) (io_1 (by decide)) ci_1 (by decide) mk_1_offer w_1207 w_1208 w_1229 rfl rfl (Nat.le_of_ble_eq_true rfl) dX11_whose_89 (fun _ s_6 => ?_)
        refine aw_iinc (ls' := [(0, .ref (ad 11 0 0)), (1, .int x1), (2, .int x2), (3, .int (x3 + 1))]) (x3 + 1) 3 [1, 2, 3, 0] dX11_whose_92 rfl (by rfl) (by decide) rfl ?_
        refine aw_goto 37 dX11_whose_95 (by decide) ?_
        exact ih s_6 (x3 + 1)
def F11_whose (σ : Mem) (x1 : Int32) (x2 : Int32) : Option (Int32 × Mem) :=
  if (F11_within x1 (-99) 99) = true then (if (F11_within x2 (-99) 99) = true then (bd (F1_begin σ) fun _ s_3 => bd (F11_whose_L37 x1 x2 fuelK s_3 0) fun r_7 s_8 => if (gB s_8 1 0 0 0) = true then (bd (F11_answer s_8 (gI s_8 1 0 0 1)) fun v_11 s_12 => some (v_11, s_12)) else (bd (F11_refuse s_8 8) fun v_9 s_10 => some (v_9, s_10))) else (bd (F11_refuse σ 5) fun v_13 s_14 => some (v_13, s_14))) else (bd (F11_refuse σ 5) fun v_1 s_2 => some (v_1, s_2))
set_option maxRecDepth 20000 in
theorem c11_whose {l : Launch} {D : va_G} {ad : Nat → Nat → Nat → Nat} {cid : Nat → Nat → Nat → ClassId} (σ : Mem) (x1 : Int32) (x2 : Int32) : AMF (XC l D ad cid) M11_whose 1 eI [.ref (ad 11 0 0), .int x1, .int x2] σ (F11_whose σ x1 x2) := by
  refine AM.ofW (by decide +kernel) (Nat.le_of_ble_eq_true rfl) (ls := [(0, .ref (ad 11 0 0)), (1, .int x1), (2, .int x2)]) rfl ?_
  refine aw_entry ?_
  unfold F11_whose
  refine aw_iload_n 1 dX11_whose_0 rfl rfl ?_
  refine aw_bipush (-99) dX11_whose_1 (by decide) ?_
  refine aw_bipush 99 dX11_whose_3 (by decide) ?_
  refine aw_callST_B (c11_within σ x1 (-99) 99) (by decide) mk_11_within w_798 w_797 rfl rfl (Nat.le_of_ble_eq_true rfl) dX11_whose_5 ?_
  refine aw_bif_eq 22 dX11_whose_8 (by decide) ?_ ?_
  · refine aw_aload_n 0 dX11_whose_22 rfl rfl ?_
    refine aw_iconst 5 dX11_whose_23 (by decide) ?_
    refine aw_callVW_I (c11_refuse σ 5) (io_11 (by decide)) ci_11 (by decide) mk_11_refuse w_838 w_3 w_836 rfl rfl (Nat.le_of_ble_eq_true rfl) dX11_whose_24 (fun v_1 s_2 => ?_)
    exact aw_ireturn rfl dX11_whose_27
  · refine aw_iload_n 2 dX11_whose_11 rfl rfl ?_
    refine aw_bipush (-99) dX11_whose_12 (by decide) ?_
    refine aw_bipush 99 dX11_whose_14 (by decide) ?_
    refine aw_callST_B (c11_within σ x2 (-99) 99) (by decide) mk_11_within w_798 w_797 rfl rfl (Nat.le_of_ble_eq_true rfl) dX11_whose_16 ?_
    refine aw_bif_ne 28 dX11_whose_19 (by decide) ?_ ?_
    · refine aw_aload_n 0 dX11_whose_28 rfl rfl ?_
      refine aw_getf (fg_11_17 (by decide)) ci_11 (by decide) w_734 dX11_whose_29 ?_
      refine aw_callVW_U (c1_begin σ ) (io_1 (by decide)) ci_1 (by decide) mk_1_begin w_1195 w_1196 w_1194 rfl rfl (Nat.le_of_ble_eq_true rfl) dX11_whose_32 (fun _ s_3 => ?_)
      refine aw_iconst 0 dX11_whose_35 (by decide) ?_
      refine aw_istore_n (ls' := [(0, .ref (ad 11 0 0)), (1, .int x1), (2, .int x2), (3, .int 0)]) [1, 2, 3, 0] dX11_whose_36 rfl (by decide) rfl ?_
      refine aw_assocW ?_
      refine c11_whose_L37 x1 x2 (fun r_7 s_8 => ?_) fuelK s_3 0
      refine aw_aload_n 0 dX11_whose_98 rfl rfl ?_
      refine aw_getf (fg_11_17 (by decide)) ci_11 (by decide) w_734 dX11_whose_99 ?_
      refine aw_getf (fg_1_0 (by decide)) ci_1 (by decide) w_649 dX11_whose_102 ?_
      refine aw_bif_eq 122 dX11_whose_105 (by decide) ?_ ?_
      · refine aw_aload_n 0 dX11_whose_122 rfl rfl ?_
        refine aw_bipush 8 dX11_whose_123 (by decide) ?_
        refine aw_callVW_I (c11_refuse s_8 8) (io_11 (by decide)) ci_11 (by decide) mk_11_refuse w_838 w_3 w_836 rfl rfl (Nat.le_of_ble_eq_true rfl) dX11_whose_125 (fun v_9 s_10 => ?_)
        exact aw_ireturn rfl dX11_whose_128
      · refine aw_aload_n 0 dX11_whose_108 rfl rfl ?_
        refine aw_aload_n 0 dX11_whose_109 rfl rfl ?_
        refine aw_getf (fg_11_17 (by decide)) ci_11 (by decide) w_734 dX11_whose_110 ?_
        refine aw_getf (fg_1_1 (by decide)) ci_1 (by decide) w_651 dX11_whose_113 ?_
        refine aw_callVW_I (c11_answer s_8 (gI s_8 1 0 0 1)) (io_11 (by decide)) ci_11 (by decide) mk_11_answer w_975 w_15 w_973 rfl rfl (Nat.le_of_ble_eq_true rfl) dX11_whose_116 (fun v_11 s_12 => ?_)
        refine aw_goto 128 dX11_whose_119 (by decide) ?_
        exact aw_ireturn rfl dX11_whose_128
    · refine aw_aload_n 0 dX11_whose_22 rfl rfl ?_
      refine aw_iconst 5 dX11_whose_23 (by decide) ?_
      refine aw_callVW_I (c11_refuse σ 5) (io_11 (by decide)) ci_11 (by decide) mk_11_refuse w_838 w_3 w_836 rfl rfl (Nat.le_of_ble_eq_true rfl) dX11_whose_24 (fun v_13 s_14 => ?_)
      exact aw_ireturn rfl dX11_whose_27
def F11_worst_p73 (rc : Mem → Int32 → Option ((Unit) × Mem)) (σ : Mem) (x1 : Int32) (x2 : Int32) (x3 : Int32) (q0 : Nat) (q1 : Int32) (q2 : Int32) : Option ((Unit) × Mem) :=
  bd (F7_gather σ q0 q1 q2) fun _ s_4 => if (gI s_4 7 0 0 7) ≤ 0 then (rc s_4 (x3 + 1)) else (bd (F1_offer s_4 x3 (F7_spreadTop s_4 0) (F7_spreadBottom s_4 0)) fun _ s_5 => rc s_5 (x3 + 1))
set_option maxRecDepth 20000 in
theorem c11_worst_p73 {l : Launch} {D : va_G} {ad : Nat → Nat → Nat → Nat} {cid : Nat → Nat → Nat → ClassId} {α : Type} {emb : α → Option Value}  (x1 : Int32) (x2 : Int32) {G : Unit → Mem → Option (α × Mem)} (kx : ∀ r σ, AW (XC l D ad cid) M11_worst 1 emb [(0, .ref (ad 11 0 0))] 114 [] σ (G r σ)) {rc : Mem → Int32 → Option ((Unit) × Mem)} (ih : ∀ (σ : Mem) (x3 : Int32), AW (XC l D ad cid) M11_worst 1 emb [(0, .ref (ad 11 0 0)), (1, .int x1), (2, .int x2), (3, .int x3)] 46 [] σ (bd (rc σ x3) G)) (σ : Mem) (x3 : Int32) (q0 : Nat) (hq0 : q0 < 5) (q1 : Int32) (q2 : Int32) : AW (XC l D ad cid) M11_worst 1 emb [(0, .ref (ad 11 0 0)), (1, .int x1), (2, .int x2), (3, .int x3)] 73 [.int q2, .int q1, .ref (ad 7 q0 0)] σ ((F11_worst_p73 rc σ x1 x2 x3 q0 q1 q2).bind (fun q => G q.1 q.2)) := by
  unfold F11_worst_p73
  refine aw_callVW_U (c7_gather σ q0 (by omega) q1 q2) (io_7 (by omega)) ci_7 (by decide) mk_7_gather w_1067 w_1068 w_1066 rfl rfl (Nat.le_of_ble_eq_true rfl) dX11_worst_73 (fun _ s_4 => ?_)
  refine aw_aload_n 0 dX11_worst_76 rfl rfl ?_
  refine aw_getf (fg_11_9 (by decide)) ci_11 (by decide) w_726 dX11_worst_77 ?_
  refine aw_getf (fg_7_7 (by decide)) ci_7 (by decide) w_478 dX11_worst_80 ?_
  refine aw_if_le 108 dX11_worst_83 (by decide) ?_ ?_
  · refine aw_iinc (ls' := [(0, .ref (ad 11 0 0)), (1, .int x1), (2, .int x2), (3, .int (x3 + 1))]) (x3 + 1) 3 [1, 2, 3, 0] dX11_worst_108 rfl (by rfl) (by decide) rfl ?_
    refine aw_goto 46 dX11_worst_111 (by decide) ?_
    exact ih s_4 (x3 + 1)
  · refine aw_aload_n 0 dX11_worst_86 rfl rfl ?_
    refine aw_getf (fg_11_17 (by decide)) ci_11 (by decide) w_734 dX11_worst_87 ?_
    refine aw_iload_n 3 dX11_worst_90 rfl rfl ?_
    refine aw_aload_n 0 dX11_worst_91 rfl rfl ?_
    refine aw_getf (fg_11_9 (by decide)) ci_11 (by decide) w_726 dX11_worst_92 ?_
    refine aw_callVT_L (c7_spreadTop s_4 0 (by decide)) (io_7 (by decide)) ci_7 (by decide) mk_7_spreadTop w_1309 w_1310 w_1308 rfl rfl (Nat.le_of_ble_eq_true rfl) dX11_worst_95 ?_
    refine aw_aload_n 0 dX11_worst_98 rfl rfl ?_
    refine aw_getf (fg_11_9 (by decide)) ci_11 (by decide) w_726 dX11_worst_99 ?_
    refine aw_callVT_L (c7_spreadBottom s_4 0 (by decide)) (io_7 (by decide)) ci_7 (by decide) mk_7_spreadBottom w_1313 w_1314 w_1312 rfl rfl (Nat.le_of_ble_eq_true rfl) dX11_worst_102 ?_
    refine aw_callVW_U (c1_offer s_4 x3 (F7_spreadTop s_4 0) (F7_spreadBottom s_4 0)) (io_1 (by decide)) ci_1 (by decide) mk_1_offer w_1207 w_1208 w_1229 rfl rfl (Nat.le_of_ble_eq_true rfl) dX11_worst_105 (fun _ s_5 => ?_)
    refine aw_iinc (ls' := [(0, .ref (ad 11 0 0)), (1, .int x1), (2, .int x2), (3, .int (x3 + 1))]) (x3 + 1) 3 [1, 2, 3, 0] dX11_worst_108 rfl (by rfl) (by decide) rfl ?_
    refine aw_goto 46 dX11_worst_111 (by decide) ?_
    exact ih s_5 (x3 + 1)
def F11_worst_p64 (rc : Mem → Int32 → Option ((Unit) × Mem)) (σ : Mem) (x1 : Int32) (x2 : Int32) (x3 : Int32) (q0 : Nat) (q1 : Int32) : Option ((Unit) × Mem) :=
  if x1 = 0 then (F11_worst_p73 rc σ x1 x2 x3 q0 q1 (-1)) else (F11_worst_p73 rc σ x1 x2 x3 q0 q1 x3)
set_option maxRecDepth 20000 in
theorem c11_worst_p64 {l : Launch} {D : va_G} {ad : Nat → Nat → Nat → Nat} {cid : Nat → Nat → Nat → ClassId} {α : Type} {emb : α → Option Value}  (x1 : Int32) (x2 : Int32) {G : Unit → Mem → Option (α × Mem)} (kx : ∀ r σ, AW (XC l D ad cid) M11_worst 1 emb [(0, .ref (ad 11 0 0))] 114 [] σ (G r σ)) {rc : Mem → Int32 → Option ((Unit) × Mem)} (ih : ∀ (σ : Mem) (x3 : Int32), AW (XC l D ad cid) M11_worst 1 emb [(0, .ref (ad 11 0 0)), (1, .int x1), (2, .int x2), (3, .int x3)] 46 [] σ (bd (rc σ x3) G)) (σ : Mem) (x3 : Int32) (q0 : Nat) (hq0 : q0 < 5) (q1 : Int32) : AW (XC l D ad cid) M11_worst 1 emb [(0, .ref (ad 11 0 0)), (1, .int x1), (2, .int x2), (3, .int x3)] 64 [.int q1, .ref (ad 7 q0 0)] σ ((F11_worst_p64 rc σ x1 x2 x3 q0 q1).bind (fun q => G q.1 q.2)) := by
  unfold F11_worst_p64
  refine aw_iload_n 1 dX11_worst_64 rfl rfl ?_
  refine aw_if_ne 72 dX11_worst_65 (by decide) ?_ ?_
  · refine aw_iload_n 3 dX11_worst_72 rfl rfl ?_
    exact c11_worst_p73 x1 x2 kx ih σ x3 q0 (by omega) q1 x3
  · refine aw_iconst (-1) dX11_worst_68 (by decide) ?_
    refine aw_goto 73 dX11_worst_69 (by decide) ?_
    exact c11_worst_p73 x1 x2 kx ih σ x3 q0 (by omega) q1 (-1)
def F11_worst_L46 (x1 : Int32) (x2 : Int32) : Nat → Mem → Int32 → Option ((Unit) × Mem)
  | 0 => fun _ _ => none
  | n + 1 => fun σ x3 =>
    if x2 ≤ x3 then (some ((), σ)) else (if x1 = 0 then (F11_worst_p64 (F11_worst_L46 x1 x2 n) σ x1 x2 x3 0 x3) else (F11_worst_p64 (F11_worst_L46 x1 x2 n) σ x1 x2 x3 0 (-1)))
set_option maxRecDepth 20000 in
theorem c11_worst_L46 {l : Launch} {D : va_G} {ad : Nat → Nat → Nat → Nat} {cid : Nat → Nat → Nat → ClassId} {α : Type} {emb : α → Option Value} (x1 : Int32) (x2 : Int32) {G : Unit → Mem → Option (α × Mem)} (kx : ∀ r σ, AW (XC l D ad cid) M11_worst 1 emb [(0, .ref (ad 11 0 0))] 114 [] σ (G r σ)) : ∀ (n : Nat) (σ : Mem) (x3 : Int32), AW (XC l D ad cid) M11_worst 1 emb [(0, .ref (ad 11 0 0)), (1, .int x1), (2, .int x2), (3, .int x3)] 46 [] σ (bd (F11_worst_L46 x1 x2 n σ x3) G) := by
  intro n
  induction n with
  | zero => intros; exact aw_none
  | succ n ih =>
    intro σ x3
    refine aw_bdB ?_
    rw [F11_worst_L46.eq_2]
    refine aw_iload_n 3 dX11_worst_46 rfl rfl ?_
    refine aw_iload_n 2 dX11_worst_47 rfl rfl ?_
    refine aw_icmp_ge 114 dX11_worst_48 (by decide) ?_ ?_
    · refine aw_ls (ls' := [(0, .ref (ad 11 0 0))]) [0] rfl ?_
      exact kx () σ
    · refine aw_aload_n 0 dX11_worst_51 rfl rfl ?_
      refine aw_getf (fg_11_9 (by decide)) ci_11 (by decide) w_726 dX11_worst_52 ?_
      refine aw_iload_n 1 dX11_worst_55 rfl rfl ?_
      refine aw_if_ne 63 dX11_worst_56 (by decide) ?_ ?_
      · refine aw_iconst (-1) dX11_worst_63 (by decide) ?_
        exact c11_worst_p64 x1 x2 kx ih σ x3 0 (by decide) (-1)
      · refine aw_iload_n 3 dX11_worst_59 rfl rfl ?_
        refine aw_goto 64 dX11_worst_60 (by decide) ?_
        exact c11_worst_p64 x1 x2 kx ih σ x3 0 (by decide) x3
def F11_worst (σ : Mem) (x1 : Int32) : Option (Int32 × Mem) :=
  if (F11_within x1 0 1) = true then (if x1 = 0 then (gd 5 (gR σ 11 0 0 5) fun t_12 => bnd (gI σ 9 t_12 0 13) fun v_13 => bd (F1_begin σ) fun _ s_14 => bd (F11_worst_L46 x1 v_13 fuelK s_14 0) fun r_15 s_16 => if (gB s_16 1 0 0 0) = true then (bd (F11_answer s_16 (gI s_16 1 0 0 1)) fun v_19 s_20 => some (v_19, s_20)) else (bd (F11_refuse s_16 8) fun v_17 s_18 => some (v_17, s_18))) else (gd 5 (gR σ 11 0 0 5) fun t_1 => bnd (gI σ 9 t_1 0 7) fun v_2 => bd (F1_begin σ) fun _ s_3 => bd (F11_worst_L46 x1 v_2 fuelK s_3 0) fun r_6 s_7 => if (gB s_7 1 0 0 0) = true then (bd (F11_answer s_7 (gI s_7 1 0 0 1)) fun v_10 s_11 => some (v_10, s_11)) else (bd (F11_refuse s_7 8) fun v_8 s_9 => some (v_8, s_9)))) else (bd (F11_refuse σ 5) fun v_21 s_22 => some (v_21, s_22))
set_option maxRecDepth 20000 in
theorem c11_worst {l : Launch} {D : va_G} {ad : Nat → Nat → Nat → Nat} {cid : Nat → Nat → Nat → ClassId} (σ : Mem) (x1 : Int32) : AMF (XC l D ad cid) M11_worst 1 eI [.ref (ad 11 0 0), .int x1] σ (F11_worst σ x1) := by
  refine AM.ofW (by decide +kernel) (Nat.le_of_ble_eq_true rfl) (ls := [(0, .ref (ad 11 0 0)), (1, .int x1)]) rfl ?_
  refine aw_entry ?_
  unfold F11_worst
  refine aw_iload_n 1 dX11_worst_0 rfl rfl ?_
  refine aw_iconst 0 dX11_worst_1 (by decide) ?_
  refine aw_iconst 1 dX11_worst_2 (by decide) ?_
  refine aw_callST_B (c11_within σ x1 0 1) (by decide) mk_11_within w_798 w_797 rfl rfl (Nat.le_of_ble_eq_true rfl) dX11_worst_3 ?_
  refine aw_bif_ne 15 dX11_worst_6 (by decide) ?_ ?_
  · refine aw_iload_n 1 dX11_worst_15 rfl rfl ?_
    refine aw_if_ne 29 dX11_worst_16 (by decide) ?_ ?_
    · refine aw_aload_n 0 dX11_worst_29 rfl rfl ?_
      refine aw_getf (fg_11_5 (by decide)) ci_11 (by decide) w_722 dX11_worst_30 ?_
      refine aw_gd (n := 5) (fun t_1 ht_1 => ?_)
      refine aw_getf (fg_9_7 (by omega)) ci_9 (by decide) w_338 dX11_worst_33 ?_
      refine aw_bnd_int (fun v_2 => ?_)
      refine aw_istore_n (ls' := [(0, .ref (ad 11 0 0)), (1, .int x1), (2, .int v_2)]) [1, 2, 0] dX11_worst_36 rfl (by decide) rfl ?_
      refine aw_aload_n 0 dX11_worst_37 rfl rfl ?_
      refine aw_getf (fg_11_17 (by decide)) ci_11 (by decide) w_734 dX11_worst_38 ?_
      refine aw_callVW_U (c1_begin σ ) (io_1 (by decide)) ci_1 (by decide) mk_1_begin w_1195 w_1196 w_1194 rfl rfl (Nat.le_of_ble_eq_true rfl) dX11_worst_41 (fun _ s_3 => ?_)
      refine aw_iconst 0 dX11_worst_44 (by decide) ?_
      refine aw_istore_n (ls' := [(0, .ref (ad 11 0 0)), (1, .int x1), (2, .int v_2), (3, .int 0)]) [1, 2, 3, 0] dX11_worst_45 rfl (by decide) rfl ?_
      refine aw_assocW ?_
      refine c11_worst_L46 x1 v_2 (fun r_6 s_7 => ?_) fuelK s_3 0
      refine aw_aload_n 0 dX11_worst_114 rfl rfl ?_
      refine aw_getf (fg_11_17 (by decide)) ci_11 (by decide) w_734 dX11_worst_115 ?_
      refine aw_getf (fg_1_0 (by decide)) ci_1 (by decide) w_649 dX11_worst_118 ?_
      refine aw_bif_eq 138 dX11_worst_121 (by decide) ?_ ?_
      · refine aw_aload_n 0 dX11_worst_138 rfl rfl ?_
        refine aw_bipush 8 dX11_worst_139 (by decide) ?_
        refine aw_callVW_I (c11_refuse s_7 8) (io_11 (by decide)) ci_11 (by decide) mk_11_refuse w_838 w_3 w_836 rfl rfl (Nat.le_of_ble_eq_true rfl) dX11_worst_141 (fun v_8 s_9 => ?_)
        exact aw_ireturn rfl dX11_worst_144
      · refine aw_aload_n 0 dX11_worst_124 rfl rfl ?_
        refine aw_aload_n 0 dX11_worst_125 rfl rfl ?_
        refine aw_getf (fg_11_17 (by decide)) ci_11 (by decide) w_734 dX11_worst_126 ?_
        refine aw_getf (fg_1_1 (by decide)) ci_1 (by decide) w_651 dX11_worst_129 ?_
        refine aw_callVW_I (c11_answer s_7 (gI s_7 1 0 0 1)) (io_11 (by decide)) ci_11 (by decide) mk_11_answer w_975 w_15 w_973 rfl rfl (Nat.le_of_ble_eq_true rfl) dX11_worst_132 (fun v_10 s_11 => ?_)
        refine aw_goto 144 dX11_worst_135 (by decide) ?_
        exact aw_ireturn rfl dX11_worst_144
    · refine aw_aload_n 0 dX11_worst_19 rfl rfl ?_
      refine aw_getf (fg_11_5 (by decide)) ci_11 (by decide) w_722 dX11_worst_20 ?_
      refine aw_gd (n := 5) (fun t_12 ht_12 => ?_)
      refine aw_getf (fg_9_13 (by omega)) ci_9 (by decide) w_353 dX11_worst_23 ?_
      refine aw_goto 36 dX11_worst_26 (by decide) ?_
      refine aw_bnd_int (fun v_13 => ?_)
      refine aw_istore_n (ls' := [(0, .ref (ad 11 0 0)), (1, .int x1), (2, .int v_13)]) [1, 2, 0] dX11_worst_36 rfl (by decide) rfl ?_
      refine aw_aload_n 0 dX11_worst_37 rfl rfl ?_
      refine aw_getf (fg_11_17 (by decide)) ci_11 (by decide) w_734 dX11_worst_38 ?_
      refine aw_callVW_U (c1_begin σ ) (io_1 (by decide)) ci_1 (by decide) mk_1_begin w_1195 w_1196 w_1194 rfl rfl (Nat.le_of_ble_eq_true rfl) dX11_worst_41 (fun _ s_14 => ?_)
      refine aw_iconst 0 dX11_worst_44 (by decide) ?_
      refine aw_istore_n (ls' := [(0, .ref (ad 11 0 0)), (1, .int x1), (2, .int v_13), (3, .int 0)]) [1, 2, 3, 0] dX11_worst_45 rfl (by decide) rfl ?_
      refine aw_assocW ?_
      refine c11_worst_L46 x1 v_13 (fun r_15 s_16 => ?_) fuelK s_14 0
      refine aw_aload_n 0 dX11_worst_114 rfl rfl ?_
      refine aw_getf (fg_11_17 (by decide)) ci_11 (by decide) w_734 dX11_worst_115 ?_
      refine aw_getf (fg_1_0 (by decide)) ci_1 (by decide) w_649 dX11_worst_118 ?_
      refine aw_bif_eq 138 dX11_worst_121 (by decide) ?_ ?_
      · refine aw_aload_n 0 dX11_worst_138 rfl rfl ?_
        refine aw_bipush 8 dX11_worst_139 (by decide) ?_
        refine aw_callVW_I (c11_refuse s_16 8) (io_11 (by decide)) ci_11 (by decide) mk_11_refuse w_838 w_3 w_836 rfl rfl (Nat.le_of_ble_eq_true rfl) dX11_worst_141 (fun v_17 s_18 => ?_)
        exact aw_ireturn rfl dX11_worst_144
      · refine aw_aload_n 0 dX11_worst_124 rfl rfl ?_
        refine aw_aload_n 0 dX11_worst_125 rfl rfl ?_
        refine aw_getf (fg_11_17 (by decide)) ci_11 (by decide) w_734 dX11_worst_126 ?_
        refine aw_getf (fg_1_1 (by decide)) ci_1 (by decide) w_651 dX11_worst_129 ?_
        refine aw_callVW_I (c11_answer s_16 (gI s_16 1 0 0 1)) (io_11 (by decide)) ci_11 (by decide) mk_11_answer w_975 w_15 w_973 rfl rfl (Nat.le_of_ble_eq_true rfl) dX11_worst_132 (fun v_19 s_20 => ?_)
        refine aw_goto 144 dX11_worst_135 (by decide) ?_
        exact aw_ireturn rfl dX11_worst_144
  · refine aw_aload_n 0 dX11_worst_9 rfl rfl ?_
    refine aw_iconst 5 dX11_worst_10 (by decide) ?_
    refine aw_callVW_I (c11_refuse σ 5) (io_11 (by decide)) ci_11 (by decide) mk_11_refuse w_838 w_3 w_836 rfl rfl (Nat.le_of_ble_eq_true rfl) dX11_worst_11 (fun v_21 s_22 => ?_)
    exact aw_ireturn rfl dX11_worst_14
def F11_sieve_L20 (σ : Mem) (x1 : Int32) : Nat → Int32 → Int32 → Option (Int32)
  | 0 => fun _ _ => none
  | n + 1 => fun x2 x3 =>
    gd 5 (gR σ 11 0 0 5) fun t_1 => if (gI σ 9 t_1 0 7) ≤ x3 then (some x2) else (gd 5 (gR σ 11 0 0 5) fun t_2 => (ald 8 (gI σ 9 t_2 4) x3).bind fun v_3 => if x1 < v_3 then ((F11_sieve_L20 σ x1 n) x2 (x3 + 1)) else (bnd (x2 ||| (1 <<< (x3 &&& 31))) fun v_4 => (F11_sieve_L20 σ x1 n) v_4 (x3 + 1)))
set_option maxRecDepth 20000 in
theorem c11_sieve_L20 {l : Launch} {D : va_G} {ad : Nat → Nat → Nat → Nat} {cid : Nat → Nat → Nat → ClassId} {α : Type} {emb : α → Option Value} (σ : Mem) (x1 : Int32) {G : Int32 → Option (α × Mem)} (kx : ∀ r, AW (XC l D ad cid) M11_sieve 1 emb [(0, .ref (ad 11 0 0)), (2, .int r)] 56 [] σ (G r)) : ∀ (n : Nat) (x2 : Int32) (x3 : Int32), AW (XC l D ad cid) M11_sieve 1 emb [(0, .ref (ad 11 0 0)), (1, .int x1), (2, .int x2), (3, .int x3)] 20 [] σ ((F11_sieve_L20 σ x1 n x2 x3).bind G) := by
  intro n
  induction n with
  | zero => intros; exact aw_none
  | succ n ih =>
    intro x2 x3
    rw [F11_sieve_L20.eq_2]
    refine aw_iload_n 3 dX11_sieve_20 rfl rfl ?_
    refine aw_aload_n 0 dX11_sieve_21 rfl rfl ?_
    refine aw_getf (fg_11_5 (by decide)) ci_11 (by decide) w_722 dX11_sieve_22 ?_
    refine aw_gd (n := 5) (fun t_1 ht_1 => ?_)
    refine aw_getf (fg_9_7 (by omega)) ci_9 (by decide) w_338 dX11_sieve_25 ?_
    refine aw_icmp_ge 56 dX11_sieve_28 (by decide) ?_ ?_
    · refine aw_ls (ls' := [(0, .ref (ad 11 0 0)), (2, .int x2)]) [0, 2] rfl ?_
      exact kx x2
    · refine aw_aload_n 0 dX11_sieve_31 rfl rfl ?_
      refine aw_getf (fg_11_5 (by decide)) ci_11 (by decide) w_722 dX11_sieve_32 ?_
      refine aw_gd (n := 5) (fun t_2 ht_2 => ?_)
      refine aw_getf (fg_9_9 (by omega)) ci_9 (by decide) w_341 dX11_sieve_35 ?_
      refine aw_iload_n 3 dX11_sieve_38 rfl rfl ?_
      refine aw_iaload (ar_9_4 (by omega)) dX11_sieve_39 (fun v_3 => ?_)
      refine aw_iload_n 1 dX11_sieve_40 rfl rfl ?_
      refine aw_icmp_gt 50 dX11_sieve_41 (by decide) ?_ ?_
      · refine aw_iinc (ls' := [(0, .ref (ad 11 0 0)), (1, .int x1), (2, .int x2), (3, .int (x3 + 1))]) (x3 + 1) 3 [1, 2, 3, 0] dX11_sieve_50 rfl (by rfl) (by decide) rfl ?_
        refine aw_goto 20 dX11_sieve_53 (by decide) ?_
        exact ih x2 (x3 + 1)
      · refine aw_iload_n 2 dX11_sieve_44 rfl rfl ?_
        refine aw_iconst 1 dX11_sieve_45 (by decide) ?_
        refine aw_iload_n 3 dX11_sieve_46 rfl rfl ?_
        refine aw_ishl dX11_sieve_47 ?_
        refine aw_ior dX11_sieve_48 ?_
        refine aw_bnd_int (fun v_4 => ?_)
        refine aw_istore_n (ls' := [(0, .ref (ad 11 0 0)), (1, .int x1), (2, .int v_4), (3, .int x3)]) [1, 2, 0, 3] dX11_sieve_49 rfl (by decide) rfl ?_
        refine aw_iinc (ls' := [(0, .ref (ad 11 0 0)), (1, .int x1), (2, .int v_4), (3, .int (x3 + 1))]) (x3 + 1) 3 [1, 2, 3, 0] dX11_sieve_50 rfl (by rfl) (by decide) rfl ?_
        refine aw_goto 20 dX11_sieve_53 (by decide) ?_
        exact ih v_4 (x3 + 1)
def F11_sieve (σ : Mem) (x1 : Int32) : Option (Int32 × Mem) :=
  if (F11_within x1 1 12) = true then ((F11_sieve_L20 σ x1 fuelK 0 0).bind fun r_5 => bd (F11_answer σ r_5) fun v_6 s_7 => some (v_6, s_7)) else (bd (F11_refuse σ 5) fun v_8 s_9 => some (v_8, s_9))
set_option maxRecDepth 20000 in
theorem c11_sieve {l : Launch} {D : va_G} {ad : Nat → Nat → Nat → Nat} {cid : Nat → Nat → Nat → ClassId} (σ : Mem) (x1 : Int32) : AMF (XC l D ad cid) M11_sieve 1 eI [.ref (ad 11 0 0), .int x1] σ (F11_sieve σ x1) := by
  refine AM.ofW (by decide +kernel) (Nat.le_of_ble_eq_true rfl) (ls := [(0, .ref (ad 11 0 0)), (1, .int x1)]) rfl ?_
  refine aw_entry ?_
  unfold F11_sieve
  refine aw_iload_n 1 dX11_sieve_0 rfl rfl ?_
  refine aw_iconst 1 dX11_sieve_1 (by decide) ?_
  refine aw_bipush 12 dX11_sieve_2 (by decide) ?_
  refine aw_callST_B (c11_within σ x1 1 12) (by decide) mk_11_within w_798 w_797 rfl rfl (Nat.le_of_ble_eq_true rfl) dX11_sieve_4 ?_
  refine aw_bif_ne 16 dX11_sieve_7 (by decide) ?_ ?_
  · refine aw_iconst 0 dX11_sieve_16 (by decide) ?_
    refine aw_istore_n (ls' := [(0, .ref (ad 11 0 0)), (1, .int x1), (2, .int 0)]) [1, 2, 0] dX11_sieve_17 rfl (by decide) rfl ?_
    refine aw_iconst 0 dX11_sieve_18 (by decide) ?_
    refine aw_istore_n (ls' := [(0, .ref (ad 11 0 0)), (1, .int x1), (2, .int 0), (3, .int 0)]) [1, 2, 3, 0] dX11_sieve_19 rfl (by decide) rfl ?_
    refine aw_assoc ?_
    refine c11_sieve_L20 σ x1 (fun r_5 => ?_) fuelK 0 0
    refine aw_aload_n 0 dX11_sieve_56 rfl rfl ?_
    refine aw_iload_n 1 dX11_sieve_57 rfl rfl ?_
    refine aw_callVW_I (c11_answer σ r_5) (io_11 (by decide)) ci_11 (by decide) mk_11_answer w_975 w_15 w_973 rfl rfl (Nat.le_of_ble_eq_true rfl) dX11_sieve_58 (fun v_6 s_7 => ?_)
    exact aw_ireturn rfl dX11_sieve_61
  · refine aw_aload_n 0 dX11_sieve_10 rfl rfl ?_
    refine aw_iconst 5 dX11_sieve_11 (by decide) ?_
    refine aw_callVW_I (c11_refuse σ 5) (io_11 (by decide)) ci_11 (by decide) mk_11_refuse w_838 w_3 w_836 rfl rfl (Nat.le_of_ble_eq_true rfl) dX11_sieve_12 (fun v_8 s_9 => ?_)
    exact aw_ireturn rfl dX11_sieve_15
def F7_couples_L16 (σ : Mem) (t0 : Nat) (x2 : Int32) : Nat → Int32 → Int32 → Option (Int32)
  | 0 => fun _ _ => none
  | n + 1 => fun x1 x3 =>
    if (gI σ 7 t0 0 1) ≤ x3 then (some x1) else ((ald 60 (gI σ 7 t0 1) x2).bind fun v_2 => (ald 60 (gI σ 7 t0 1) x3).bind fun v_3 => if v_2 = v_3 then ((ald 60 (gI σ 7 t0 2) x2).bind fun v_4 => (ald 60 (gI σ 7 t0 2) x3).bind fun v_5 => if v_4 = v_5 then ((F7_couples_L16 σ t0 x2 n) (x1 + 1) (x3 + 1)) else ((F7_couples_L16 σ t0 x2 n) x1 (x3 + 1))) else ((F7_couples_L16 σ t0 x2 n) x1 (x3 + 1)))
set_option maxRecDepth 20000 in
theorem c7_couples_L16 {l : Launch} {D : va_G} {ad : Nat → Nat → Nat → Nat} {cid : Nat → Nat → Nat → ClassId} {α : Type} {emb : α → Option Value} (σ : Mem) (t0 : Nat) (ht0 : t0 < 5) (x2 : Int32) {G : Int32 → Option (α × Mem)} (kx : ∀ r, AW (XC l D ad cid) M7_couples 0 emb [(0, .ref (ad 7 t0 0)), (1, .int r), (2, .int x2)] 63 [] σ (G r)) : ∀ (n : Nat) (x1 : Int32) (x3 : Int32), AW (XC l D ad cid) M7_couples 0 emb [(0, .ref (ad 7 t0 0)), (1, .int x1), (2, .int x2), (3, .int x3)] 16 [] σ ((F7_couples_L16 σ t0 x2 n x1 x3).bind G) := by
  intro n
  induction n with
  | zero => intros; exact aw_none
  | succ n ih =>
    intro x1 x3
    rw [F7_couples_L16.eq_2]
    refine aw_iload_n 3 dX7_couples_16 rfl rfl ?_
    refine aw_aload_n 0 dX7_couples_17 rfl rfl ?_
    refine aw_getf (fg_7_1 (by omega)) ci_7 (by decide) w_463 dX7_couples_18 ?_
    refine aw_icmp_ge 63 dX7_couples_21 (by decide) ?_ ?_
    · refine aw_ls (ls' := [(0, .ref (ad 7 t0 0)), (1, .int x1), (2, .int x2)]) [0, 1, 2] rfl ?_
      exact kx x1
    · refine aw_aload_n 0 dX7_couples_24 rfl rfl ?_
      refine aw_getf (fg_7_2 (by omega)) ci_7 (by decide) w_466 dX7_couples_25 ?_
      refine aw_iload_n 2 dX7_couples_28 rfl rfl ?_
      refine aw_iaload (ar_7_1 (by omega)) dX7_couples_29 (fun v_2 => ?_)
      refine aw_aload_n 0 dX7_couples_30 rfl rfl ?_
      refine aw_getf (fg_7_2 (by omega)) ci_7 (by decide) w_466 dX7_couples_31 ?_
      refine aw_iload_n 3 dX7_couples_34 rfl rfl ?_
      refine aw_iaload (ar_7_1 (by omega)) dX7_couples_35 (fun v_3 => ?_)
      refine aw_icmp_ne 57 dX7_couples_36 (by decide) ?_ ?_
      · refine aw_iinc (ls' := [(0, .ref (ad 7 t0 0)), (1, .int x1), (2, .int x2), (3, .int (x3 + 1))]) (x3 + 1) 3 [1, 2, 3, 0] dX7_couples_57 rfl (by rfl) (by decide) rfl ?_
        refine aw_goto 16 dX7_couples_60 (by decide) ?_
        exact ih x1 (x3 + 1)
      · refine aw_aload_n 0 dX7_couples_39 rfl rfl ?_
        refine aw_getf (fg_7_3 (by omega)) ci_7 (by decide) w_468 dX7_couples_40 ?_
        refine aw_iload_n 2 dX7_couples_43 rfl rfl ?_
        refine aw_iaload (ar_7_2 (by omega)) dX7_couples_44 (fun v_4 => ?_)
        refine aw_aload_n 0 dX7_couples_45 rfl rfl ?_
        refine aw_getf (fg_7_3 (by omega)) ci_7 (by decide) w_468 dX7_couples_46 ?_
        refine aw_iload_n 3 dX7_couples_49 rfl rfl ?_
        refine aw_iaload (ar_7_2 (by omega)) dX7_couples_50 (fun v_5 => ?_)
        refine aw_icmp_ne 57 dX7_couples_51 (by decide) ?_ ?_
        · refine aw_iinc (ls' := [(0, .ref (ad 7 t0 0)), (1, .int x1), (2, .int x2), (3, .int (x3 + 1))]) (x3 + 1) 3 [1, 2, 3, 0] dX7_couples_57 rfl (by rfl) (by decide) rfl ?_
          refine aw_goto 16 dX7_couples_60 (by decide) ?_
          exact ih x1 (x3 + 1)
        · refine aw_iinc (ls' := [(0, .ref (ad 7 t0 0)), (1, .int (x1 + 1)), (2, .int x2), (3, .int x3)]) (x1 + 1) 1 [1, 0, 2, 3] dX7_couples_54 rfl (by rfl) (by decide) rfl ?_
          refine aw_iinc (ls' := [(0, .ref (ad 7 t0 0)), (1, .int (x1 + 1)), (2, .int x2), (3, .int (x3 + 1))]) (x3 + 1) 3 [1, 2, 3, 0] dX7_couples_57 rfl (by rfl) (by decide) rfl ?_
          refine aw_goto 16 dX7_couples_60 (by decide) ?_
          exact ih (x1 + 1) (x3 + 1)
def F7_couples_L4 (σ : Mem) (t0 : Nat) : Nat → Int32 → Int32 → Option (Int32)
  | 0 => fun _ _ => none
  | n + 1 => fun x1 x2 =>
    if (gI σ 7 t0 0 1) ≤ x2 then (some x1) else (bnd (x2 + 1) fun v_1 => (F7_couples_L16 σ t0 x2 fuelK x1 v_1).bind fun r_6 => (F7_couples_L4 σ t0 n) r_6 (x2 + 1))
set_option maxRecDepth 20000 in
theorem c7_couples_L4 {l : Launch} {D : va_G} {ad : Nat → Nat → Nat → Nat} {cid : Nat → Nat → Nat → ClassId} {α : Type} {emb : α → Option Value} (σ : Mem) (t0 : Nat) (ht0 : t0 < 5) {G : Int32 → Option (α × Mem)} (kx : ∀ r, AW (XC l D ad cid) M7_couples 0 emb [(1, .int r)] 69 [] σ (G r)) : ∀ (n : Nat) (x1 : Int32) (x2 : Int32), AW (XC l D ad cid) M7_couples 0 emb [(0, .ref (ad 7 t0 0)), (1, .int x1), (2, .int x2)] 4 [] σ ((F7_couples_L4 σ t0 n x1 x2).bind G) := by
  intro n
  induction n with
  | zero => intros; exact aw_none
  | succ n ih =>
    intro x1 x2
    rw [F7_couples_L4.eq_2]
    refine aw_iload_n 2 dX7_couples_4 rfl rfl ?_
    refine aw_aload_n 0 dX7_couples_5 rfl rfl ?_
    refine aw_getf (fg_7_1 (by omega)) ci_7 (by decide) w_463 dX7_couples_6 ?_
    refine aw_icmp_ge 69 dX7_couples_9 (by decide) ?_ ?_
    · refine aw_ls (ls' := [(1, .int x1)]) [1] rfl ?_
      exact kx x1
    · refine aw_iload_n 2 dX7_couples_12 rfl rfl ?_
      refine aw_iconst 1 dX7_couples_13 (by decide) ?_
      refine aw_iadd dX7_couples_14 ?_
      refine aw_bnd_int (fun v_1 => ?_)
      refine aw_istore_n (ls' := [(0, .ref (ad 7 t0 0)), (1, .int x1), (2, .int x2), (3, .int v_1)]) [1, 2, 3, 0] dX7_couples_15 rfl (by decide) rfl ?_
      refine aw_assoc ?_
      refine c7_couples_L16 σ t0 (by omega) x2 (fun r_6 => ?_) fuelK x1 v_1
      refine aw_iinc (ls' := [(0, .ref (ad 7 t0 0)), (1, .int r_6), (2, .int (x2 + 1))]) (x2 + 1) 2 [1, 2, 0] dX7_couples_63 rfl (by rfl) (by decide) rfl ?_
      refine aw_goto 4 dX7_couples_66 (by decide) ?_
      exact ih r_6 (x2 + 1)
def F7_couples (σ : Mem) (t0 : Nat) : Option Int32 :=
  (F7_couples_L4 σ t0 fuelK 0 0).bind fun r_7 => some r_7
set_option maxRecDepth 20000 in
theorem c7_couples {l : Launch} {D : va_G} {ad : Nat → Nat → Nat → Nat} {cid : Nat → Nat → Nat → ClassId} (σ : Mem) (t0 : Nat) (ht0 : t0 < 5) : AMF (XC l D ad cid) M7_couples 0 eI [.ref (ad 7 t0 0)] σ (oM σ (F7_couples σ t0)) := by
  refine AM.ofW (by decide +kernel) (Nat.le_of_ble_eq_true rfl) (ls := [(0, .ref (ad 7 t0 0))]) rfl ?_
  refine aw_entryO ?_
  unfold F7_couples
  refine aw_iconst 0 dX7_couples_0 (by decide) ?_
  refine aw_istore_n (ls' := [(0, .ref (ad 7 t0 0)), (1, .int 0)]) [1, 0] dX7_couples_1 rfl (by decide) rfl ?_
  refine aw_iconst 0 dX7_couples_2 (by decide) ?_
  refine aw_istore_n (ls' := [(0, .ref (ad 7 t0 0)), (1, .int 0), (2, .int 0)]) [1, 2, 0] dX7_couples_3 rfl (by decide) rfl ?_
  refine aw_assoc ?_
  refine c7_couples_L4 σ t0 (by omega) (fun r_7 => ?_) fuelK 0 0
  refine aw_iload_n 0 dX7_couples_69 rfl rfl ?_
  exact aw_ireturn rfl dX7_couples_70
def F11_same (σ : Mem)  : Option (Int32 × Mem) :=
  (F7_couples σ 0).bind fun v_1 => bd (F11_answer σ v_1) fun v_2 s_3 => some (v_2, s_3)
set_option maxRecDepth 20000 in
theorem c11_same {l : Launch} {D : va_G} {ad : Nat → Nat → Nat → Nat} {cid : Nat → Nat → Nat → ClassId} (σ : Mem)  : AMF (XC l D ad cid) M11_same 1 eI [.ref (ad 11 0 0)] σ (F11_same σ) := by
  refine AM.ofW (by decide +kernel) (Nat.le_of_ble_eq_true rfl) (ls := [(0, .ref (ad 11 0 0))]) rfl ?_
  refine aw_entry ?_
  unfold F11_same
  refine aw_aload_n 0 dX11_same_0 rfl rfl ?_
  refine aw_aload_n 0 dX11_same_1 rfl rfl ?_
  refine aw_getf (fg_11_9 (by decide)) ci_11 (by decide) w_726 dX11_same_2 ?_
  refine aw_callVO_I (c7_couples σ 0 (by decide)) (io_7 (by decide)) ci_7 (by decide) mk_7_couples w_1337 w_1338 w_1336 rfl rfl (Nat.le_of_ble_eq_true rfl) dX11_same_5 (fun v_1 => ?_)
  refine aw_callVW_I (c11_answer σ v_1) (io_11 (by decide)) ci_11 (by decide) mk_11_answer w_975 w_15 w_973 rfl rfl (Nat.le_of_ble_eq_true rfl) dX11_same_8 (fun v_2 s_3 => ?_)
  exact aw_ireturn rfl dX11_same_11
def F7_strike (σ : Mem) (t0 : Nat) (t1 : Nat) (t2 : Nat) (x3 : Int32) (x4 : Int32) : Option (Int32 × Mem) :=
  (F9_worthAt σ t1 x3 x4).bind fun v_1 => (ald 6 (gI σ 7 t0 5) (gI σ 6 t2 0 0)).bind fun v_2 => chk 6 (gI σ 6 t2 0 0) <| bnd (sI σ 7 t0 5 (Int32.toNatClampNeg (gI σ 6 t2 0 0)) (v_2 + v_1)) fun s_3 => bnd (sI s_3 7 t0 0 0 (iMin 20 ((gI s_3 7 t0 0 0) + 1))) fun s_4 => if (F11_within x3 (-99) 99) = true then (if (F11_within x4 (-99) 99) = true then (if 60 ≤ (gI s_4 7 t0 0 1) then (some (v_1, s_4)) else (chk 60 (gI s_4 7 t0 0 1) <| bnd (sI s_4 7 t0 1 (Int32.toNatClampNeg (gI s_4 7 t0 0 1)) x3) fun s_5 => chk 60 (gI s_5 7 t0 0 1) <| bnd (sI s_5 7 t0 2 (Int32.toNatClampNeg (gI s_5 7 t0 0 1)) x4) fun s_6 => chk 60 (gI s_6 7 t0 0 1) <| bnd (sI s_6 7 t0 3 (Int32.toNatClampNeg (gI s_6 7 t0 0 1)) (gI s_6 6 t2 0 0)) fun s_7 => chk 60 (gI s_7 7 t0 0 1) <| bnd (sI s_7 7 t0 4 (Int32.toNatClampNeg (gI s_7 7 t0 0 1)) (gI s_7 6 t2 0 1)) fun s_8 => bnd (sI s_8 7 t0 0 1 ((gI s_8 7 t0 0 1) + 1)) fun s_9 => some (v_1, s_9))) else (some (v_1, s_4))) else (some (v_1, s_4))
set_option maxRecDepth 20000 in
theorem c7_strike {l : Launch} {D : va_G} {ad : Nat → Nat → Nat → Nat} {cid : Nat → Nat → Nat → ClassId} (σ : Mem) (t0 : Nat) (ht0 : t0 < 5) (t1 : Nat) (ht1 : t1 < 5) (t2 : Nat) (ht2 : t2 < 3) (x3 : Int32) (x4 : Int32) : AMF (XC l D ad cid) M7_strike 2 eI [.ref (ad 7 t0 0), .ref (ad 9 t1 0), .ref (ad 6 t2 0), .int x3, .int x4] σ (F7_strike σ t0 t1 t2 x3 x4) := by
  refine AM.ofW (by decide +kernel) (Nat.le_of_ble_eq_true rfl) (ls := [(0, .ref (ad 7 t0 0)), (1, .ref (ad 9 t1 0)), (2, .ref (ad 6 t2 0)), (3, .int x3), (4, .int x4)]) rfl ?_
  refine aw_entry ?_
  unfold F7_strike
  refine aw_aload_n 1 dX7_strike_0 rfl rfl ?_
  refine aw_iload_n 3 dX7_strike_1 rfl rfl ?_
  refine aw_iload 4 dX7_strike_2 rfl ?_
  refine aw_callVO_I (c9_worthAt σ t1 (by omega) x3 x4) (io_9 (by omega)) ci_9 (by decide) mk_9_worthAt w_1128 w_1129 w_1348 rfl rfl (Nat.le_of_ble_eq_true rfl) dX7_strike_4 (fun v_1 => ?_)
  refine aw_istore (ls' := [(0, .ref (ad 7 t0 0)), (2, .ref (ad 6 t2 0)), (3, .int x3), (4, .int x4), (5, .int v_1)]) [1, 3, 4, 5, 0] dX7_strike_7 (by decide) rfl ?_
  refine aw_aload_n 0 dX7_strike_9 rfl rfl ?_
  refine aw_getf (fg_7_6 (by omega)) ci_7 (by decide) w_474 dX7_strike_10 ?_
  refine aw_aload_n 1 dX7_strike_13 rfl rfl ?_
  refine aw_getf (fg_6_0 (by omega)) ci_6 (by decide) w_538 dX7_strike_14 ?_
  refine aw_dup2_11 dX7_strike_17 rfl rfl ?_
  refine aw_iaload (ar_7_5 (by omega)) dX7_strike_18 (fun v_2 => ?_)
  refine aw_iload 4 dX7_strike_19 rfl ?_
  refine aw_iadd dX7_strike_21 ?_
  refine aw_iastore (ar_7_5 (by omega)) dX7_strike_22 ?_
  refine aw_bndM (fun s_3 => ?_)
  refine aw_aload_n 0 dX7_strike_23 rfl rfl ?_
  refine aw_bipush 20 dX7_strike_24 (by decide) ?_
  refine aw_aload_n 0 dX7_strike_26 rfl rfl ?_
  refine aw_getf (fg_7_0 (by omega)) ci_7 (by decide) w_460 dX7_strike_27 ?_
  refine aw_iconst 1 dX7_strike_30 (by decide) ?_
  refine aw_iadd dX7_strike_31 ?_
  refine aw_min w_1349 w_864 w_159 w_865 (Nat.le_of_ble_eq_true rfl) dX7_strike_32 ?_
  refine aw_putI (fs_7_0 (by omega)) ci_7 (by decide) rfl rfl w_460 dX7_strike_35 ?_
  refine aw_bndM (fun s_4 => ?_)
  refine aw_iload_n 2 dX7_strike_38 rfl rfl ?_
  refine aw_bipush (-99) dX7_strike_39 (by decide) ?_
  refine aw_bipush 99 dX7_strike_41 (by decide) ?_
  refine aw_callNT_B (c11_within s_4 x3 (-99) 99) (by decide) mk_11_within w_798 (List.mem_of_getElem? (i := 12) rfl) rfl rfl (Nat.le_of_ble_eq_true rfl) dX7_strike_43 ?_
  refine aw_bif_eq 127 dX7_strike_46 (by decide) ?_ ?_
  · refine aw_iload 4 dX7_strike_127 rfl ?_
    exact aw_ireturn rfl dX7_strike_129
  · refine aw_iload 3 dX7_strike_49 rfl ?_
    refine aw_bipush (-99) dX7_strike_51 (by decide) ?_
    refine aw_bipush 99 dX7_strike_53 (by decide) ?_
    refine aw_callNT_B (c11_within s_4 x4 (-99) 99) (by decide) mk_11_within w_798 (List.mem_of_getElem? (i := 12) rfl) rfl rfl (Nat.le_of_ble_eq_true rfl) dX7_strike_55 ?_
    refine aw_bif_eq 127 dX7_strike_58 (by decide) ?_ ?_
    · refine aw_iload 4 dX7_strike_127 rfl ?_
      exact aw_ireturn rfl dX7_strike_129
    · refine aw_aload_n 0 dX7_strike_61 rfl rfl ?_
      refine aw_getf (fg_7_1 (by omega)) ci_7 (by decide) w_463 dX7_strike_62 ?_
      refine aw_bipush 60 dX7_strike_65 (by decide) ?_
      refine aw_icmp_ge 127 dX7_strike_67 (by decide) ?_ ?_
      · refine aw_iload 4 dX7_strike_127 rfl ?_
        exact aw_ireturn rfl dX7_strike_129
      · refine aw_aload_n 0 dX7_strike_70 rfl rfl ?_
        refine aw_getf (fg_7_2 (by omega)) ci_7 (by decide) w_466 dX7_strike_71 ?_
        refine aw_aload_n 0 dX7_strike_74 rfl rfl ?_
        refine aw_getf (fg_7_1 (by omega)) ci_7 (by decide) w_463 dX7_strike_75 ?_
        refine aw_iload_n 2 dX7_strike_78 rfl rfl ?_
        refine aw_iastore (ar_7_1 (by omega)) dX7_strike_79 ?_
        refine aw_bndM (fun s_5 => ?_)
        refine aw_aload_n 0 dX7_strike_80 rfl rfl ?_
        refine aw_getf (fg_7_3 (by omega)) ci_7 (by decide) w_468 dX7_strike_81 ?_
        refine aw_aload_n 0 dX7_strike_84 rfl rfl ?_
        refine aw_getf (fg_7_1 (by omega)) ci_7 (by decide) w_463 dX7_strike_85 ?_
        refine aw_iload 3 dX7_strike_88 rfl ?_
        refine aw_iastore (ar_7_2 (by omega)) dX7_strike_90 ?_
        refine aw_bndM (fun s_6 => ?_)
        refine aw_aload_n 0 dX7_strike_91 rfl rfl ?_
        refine aw_getf (fg_7_4 (by omega)) ci_7 (by decide) w_470 dX7_strike_92 ?_
        refine aw_aload_n 0 dX7_strike_95 rfl rfl ?_
        refine aw_getf (fg_7_1 (by omega)) ci_7 (by decide) w_463 dX7_strike_96 ?_
        refine aw_aload_n 1 dX7_strike_99 rfl rfl ?_
        refine aw_getf (fg_6_0 (by omega)) ci_6 (by decide) w_538 dX7_strike_100 ?_
        refine aw_iastore (ar_7_3 (by omega)) dX7_strike_103 ?_
        refine aw_bndM (fun s_7 => ?_)
        refine aw_aload_n 0 dX7_strike_104 rfl rfl ?_
        refine aw_getf (fg_7_5 (by omega)) ci_7 (by decide) w_472 dX7_strike_105 ?_
        refine aw_aload_n 0 dX7_strike_108 rfl rfl ?_
        refine aw_getf (fg_7_1 (by omega)) ci_7 (by decide) w_463 dX7_strike_109 ?_
        refine aw_aload_n 1 dX7_strike_112 rfl rfl ?_
        refine aw_getf (fg_6_1 (by omega)) ci_6 (by decide) w_544 dX7_strike_113 ?_
        refine aw_iastore (ar_7_4 (by omega)) dX7_strike_116 ?_
        refine aw_bndM (fun s_8 => ?_)
        refine aw_aload_n 0 dX7_strike_117 rfl rfl ?_
        refine aw_dup dX7_strike_118 rfl ?_
        refine aw_getf (fg_7_1 (by omega)) ci_7 (by decide) w_463 dX7_strike_119 ?_
        refine aw_iconst 1 dX7_strike_122 (by decide) ?_
        refine aw_iadd dX7_strike_123 ?_
        refine aw_putI (fs_7_1 (by omega)) ci_7 (by decide) rfl rfl w_463 dX7_strike_124 ?_
        refine aw_bndM (fun s_9 => ?_)
        refine aw_iload 4 dX7_strike_127 rfl ?_
        exact aw_ireturn rfl dX7_strike_129
def F11_shoot (σ : Mem) (x1 : Int32) (x2 : Int32) (x3 : Int32) (x4 : Int32) (x5 : Int32) (x6 : Int32) (x7 : Int32) (x8 : Int32) : Option (Int32 × Mem) :=
  (F11_wrongShot σ x1 x2 x3 0 x4 x5).bind fun v_1 => if v_1 = 0 then (if (F11_within x6 (-1) 1) = true then (if (F11_within x7 (-6) 6) = true then (if (F11_within x8 (-6) 6) = true then (if (gI σ 7 0 0 1) < 60 then (bd (F11_takeShot σ x1 x2 x3 0 x4 x5) fun _ s_6 => gd 5 (gR s_6 11 0 0 5) fun t_7 => bd (F6_reckon s_6 0 t_7) fun _ s_8 => if (gI s_8 6 0 0 8) = 0 then (gd 5 (gR s_8 11 0 0 5) fun t_9 => gd 5 (gR s_8 11 0 0 5) fun t_10 => (F6_strikeX s_8 0 t_10 x6).bind fun v_11 => gd 5 (gR s_8 11 0 0 5) fun t_12 => (F6_strikeY s_8 0 t_12).bind fun v_13 => bd (F7_strike s_8 0 t_9 0 (v_11 + x7) (v_13 + x8)) fun v_14 s_15 => bd (F11_answer s_15 v_14) fun v_16 s_17 => some (v_16, s_17)) else (bd (F11_refuse s_8 9) fun v_18 s_19 => some (v_18, s_19))) else (bd (F11_refuse σ 7) fun v_20 s_21 => some (v_20, s_21))) else (bd (F11_refuse σ 5) fun v_22 s_23 => some (v_22, s_23))) else (bd (F11_refuse σ 5) fun v_4 s_5 => some (v_4, s_5))) else (bd (F11_refuse σ 5) fun v_2 s_3 => some (v_2, s_3))) else (bd (F11_refuse σ v_1) fun v_24 s_25 => some (v_24, s_25))
set_option maxRecDepth 20000 in
theorem c11_shoot {l : Launch} {D : va_G} {ad : Nat → Nat → Nat → Nat} {cid : Nat → Nat → Nat → ClassId} (σ : Mem) (x1 : Int32) (x2 : Int32) (x3 : Int32) (x4 : Int32) (x5 : Int32) (x6 : Int32) (x7 : Int32) (x8 : Int32) : AMF (XC l D ad cid) M11_shoot 4 eI [.ref (ad 11 0 0), .int x1, .int x2, .int x3, .int x4, .int x5, .int x6, .int x7, .int x8] σ (F11_shoot σ x1 x2 x3 x4 x5 x6 x7 x8) := by
  refine AM.ofW (by decide +kernel) (Nat.le_of_ble_eq_true rfl) (ls := [(0, .ref (ad 11 0 0)), (1, .int x1), (2, .int x2), (3, .int x3), (4, .int x4), (5, .int x5), (6, .int x6), (7, .int x7), (8, .int x8)]) rfl ?_
  refine aw_entry ?_
  unfold F11_shoot
  refine aw_aload_n 0 dX11_shoot_0 rfl rfl ?_
  refine aw_iload_n 1 dX11_shoot_1 rfl rfl ?_
  refine aw_iload_n 2 dX11_shoot_2 rfl rfl ?_
  refine aw_iload_n 3 dX11_shoot_3 rfl rfl ?_
  refine aw_iconst 0 dX11_shoot_4 (by decide) ?_
  refine aw_iload 4 dX11_shoot_5 rfl ?_
  refine aw_iload 5 dX11_shoot_7 rfl ?_
  refine aw_callVO_I (c11_wrongShot σ x1 x2 x3 0 x4 x5) (io_11 (by decide)) ci_11 (by decide) mk_11_wrongShot w_1113 w_28 w_1111 rfl rfl (Nat.le_of_ble_eq_true rfl) dX11_shoot_9 (fun v_1 => ?_)
  refine aw_istore (ls' := [(0, .ref (ad 11 0 0)), (1, .int x1), (2, .int x2), (3, .int x3), (4, .int x4), (5, .int x5), (6, .int x6), (7, .int x7), (8, .int x8), (9, .int v_1)]) [1, 2, 3, 4, 5, 6, 7, 8, 9, 0] dX11_shoot_12 (by decide) rfl ?_
  refine aw_iload 9 dX11_shoot_14 rfl ?_
  refine aw_if_eq 26 dX11_shoot_16 (by decide) ?_ ?_
  · refine aw_iload 6 dX11_shoot_26 rfl ?_
    refine aw_iconst (-1) dX11_shoot_28 (by decide) ?_
    refine aw_iconst 1 dX11_shoot_29 (by decide) ?_
    refine aw_callST_B (c11_within σ x6 (-1) 1) (by decide) mk_11_within w_798 w_797 rfl rfl (Nat.le_of_ble_eq_true rfl) dX11_shoot_30 ?_
    refine aw_bif_eq 60 dX11_shoot_33 (by decide) ?_ ?_
    · refine aw_aload_n 0 dX11_shoot_60 rfl rfl ?_
      refine aw_iconst 5 dX11_shoot_61 (by decide) ?_
      refine aw_callVW_I (c11_refuse σ 5) (io_11 (by decide)) ci_11 (by decide) mk_11_refuse w_838 w_3 w_836 rfl rfl (Nat.le_of_ble_eq_true rfl) dX11_shoot_62 (fun v_2 s_3 => ?_)
      exact aw_ireturn rfl dX11_shoot_65
    · refine aw_iload 7 dX11_shoot_36 rfl ?_
      refine aw_bipush (-6) dX11_shoot_38 (by decide) ?_
      refine aw_bipush 6 dX11_shoot_40 (by decide) ?_
      refine aw_callST_B (c11_within σ x7 (-6) 6) (by decide) mk_11_within w_798 w_797 rfl rfl (Nat.le_of_ble_eq_true rfl) dX11_shoot_42 ?_
      refine aw_bif_eq 60 dX11_shoot_45 (by decide) ?_ ?_
      · refine aw_aload_n 0 dX11_shoot_60 rfl rfl ?_
        refine aw_iconst 5 dX11_shoot_61 (by decide) ?_
        refine aw_callVW_I (c11_refuse σ 5) (io_11 (by decide)) ci_11 (by decide) mk_11_refuse w_838 w_3 w_836 rfl rfl (Nat.le_of_ble_eq_true rfl) dX11_shoot_62 (fun v_4 s_5 => ?_)
        exact aw_ireturn rfl dX11_shoot_65
      · refine aw_iload 8 dX11_shoot_48 rfl ?_
        refine aw_bipush (-6) dX11_shoot_50 (by decide) ?_
        refine aw_bipush 6 dX11_shoot_52 (by decide) ?_
        refine aw_callST_B (c11_within σ x8 (-6) 6) (by decide) mk_11_within w_798 w_797 rfl rfl (Nat.le_of_ble_eq_true rfl) dX11_shoot_54 ?_
        refine aw_bif_ne 66 dX11_shoot_57 (by decide) ?_ ?_
        · refine aw_aload_n 0 dX11_shoot_66 rfl rfl ?_
          refine aw_getf (fg_11_9 (by decide)) ci_11 (by decide) w_726 dX11_shoot_67 ?_
          refine aw_getf (fg_7_1 (by decide)) ci_7 (by decide) w_465 dX11_shoot_70 ?_
          refine aw_bipush 60 dX11_shoot_73 (by decide) ?_
          refine aw_icmp_lt 85 dX11_shoot_75 (by decide) ?_ ?_
          · refine aw_aload_n 0 dX11_shoot_85 rfl rfl ?_
            refine aw_iload_n 1 dX11_shoot_86 rfl rfl ?_
            refine aw_iload_n 2 dX11_shoot_87 rfl rfl ?_
            refine aw_iload_n 3 dX11_shoot_88 rfl rfl ?_
            refine aw_iconst 0 dX11_shoot_89 (by decide) ?_
            refine aw_iload 4 dX11_shoot_90 rfl ?_
            refine aw_iload 5 dX11_shoot_92 rfl ?_
            refine aw_callVW_U (c11_takeShot σ x1 x2 x3 0 x4 x5) (io_11 (by decide)) ci_11 (by decide) mk_11_takeShot w_1080 w_25 w_1078 rfl rfl (Nat.le_of_ble_eq_true rfl) dX11_shoot_94 (fun _ s_6 => ?_)
            refine aw_aload_n 0 dX11_shoot_97 rfl rfl ?_
            refine aw_getf (fg_11_13 (by decide)) ci_11 (by decide) w_730 dX11_shoot_98 ?_
            refine aw_aload_n 0 dX11_shoot_101 rfl rfl ?_
            refine aw_getf (fg_11_5 (by decide)) ci_11 (by decide) w_722 dX11_shoot_102 ?_
            refine aw_gd (n := 5) (fun t_7 ht_7 => ?_)
            refine aw_callVW_U (c6_reckon s_6 0 (by decide) t_7 (by omega)) (io_6 (by decide)) ci_6 (by decide) mk_6_reckon w_1083 w_1084 w_1082 rfl rfl (Nat.le_of_ble_eq_true rfl) dX11_shoot_105 (fun _ s_8 => ?_)
            refine aw_aload_n 0 dX11_shoot_108 rfl rfl ?_
            refine aw_getf (fg_11_13 (by decide)) ci_11 (by decide) w_730 dX11_shoot_109 ?_
            refine aw_getf (fg_6_8 (by decide)) ci_6 (by decide) w_568 dX11_shoot_112 ?_
            refine aw_if_eq 125 dX11_shoot_115 (by decide) ?_ ?_
            · refine aw_aload_n 0 dX11_shoot_125 rfl rfl ?_
              refine aw_aload_n 0 dX11_shoot_126 rfl rfl ?_
              refine aw_getf (fg_11_9 (by decide)) ci_11 (by decide) w_726 dX11_shoot_127 ?_
              refine aw_aload_n 0 dX11_shoot_130 rfl rfl ?_
              refine aw_getf (fg_11_5 (by decide)) ci_11 (by decide) w_722 dX11_shoot_131 ?_
              refine aw_gd (n := 5) (fun t_9 ht_9 => ?_)
              refine aw_aload_n 0 dX11_shoot_134 rfl rfl ?_
              refine aw_getf (fg_11_13 (by decide)) ci_11 (by decide) w_730 dX11_shoot_135 ?_
              refine aw_aload_n 0 dX11_shoot_138 rfl rfl ?_
              refine aw_getf (fg_11_13 (by decide)) ci_11 (by decide) w_730 dX11_shoot_139 ?_
              refine aw_aload_n 0 dX11_shoot_142 rfl rfl ?_
              refine aw_getf (fg_11_5 (by decide)) ci_11 (by decide) w_722 dX11_shoot_143 ?_
              refine aw_gd (n := 5) (fun t_10 ht_10 => ?_)
              refine aw_iload 6 dX11_shoot_146 rfl ?_
              refine aw_callVO_I (c6_strikeX s_8 0 (by decide) t_10 (by omega) x6) (io_6 (by decide)) ci_6 (by decide) mk_6_strikeX w_1116 w_1117 w_1115 rfl rfl (Nat.le_of_ble_eq_true rfl) dX11_shoot_148 (fun v_11 => ?_)
              refine aw_iload 7 dX11_shoot_151 rfl ?_
              refine aw_iadd dX11_shoot_153 ?_
              refine aw_aload_n 0 dX11_shoot_154 rfl rfl ?_
              refine aw_getf (fg_11_13 (by decide)) ci_11 (by decide) w_730 dX11_shoot_155 ?_
              refine aw_aload_n 0 dX11_shoot_158 rfl rfl ?_
              refine aw_getf (fg_11_5 (by decide)) ci_11 (by decide) w_722 dX11_shoot_159 ?_
              refine aw_gd (n := 5) (fun t_12 ht_12 => ?_)
              refine aw_callVO_I (c6_strikeY s_8 0 (by decide) t_12 (by omega)) (io_6 (by decide)) ci_6 (by decide) mk_6_strikeY w_1120 w_1121 w_1119 rfl rfl (Nat.le_of_ble_eq_true rfl) dX11_shoot_162 (fun v_13 => ?_)
              refine aw_iload 8 dX11_shoot_165 rfl ?_
              refine aw_iadd dX11_shoot_167 ?_
              refine aw_callVW_I (c7_strike s_8 0 (by decide) t_9 (by omega) 0 (by decide) (v_11 + x7) (v_13 + x8)) (io_7 (by decide)) ci_7 (by decide) mk_7_strike w_1345 w_1346 w_1344 rfl rfl (Nat.le_of_ble_eq_true rfl) dX11_shoot_168 (fun v_14 s_15 => ?_)
              refine aw_callVW_I (c11_answer s_15 v_14) (io_11 (by decide)) ci_11 (by decide) mk_11_answer w_975 w_15 w_973 rfl rfl (Nat.le_of_ble_eq_true rfl) dX11_shoot_171 (fun v_16 s_17 => ?_)
              exact aw_ireturn rfl dX11_shoot_174
            · refine aw_aload_n 0 dX11_shoot_118 rfl rfl ?_
              refine aw_bipush 9 dX11_shoot_119 (by decide) ?_
              refine aw_callVW_I (c11_refuse s_8 9) (io_11 (by decide)) ci_11 (by decide) mk_11_refuse w_838 w_3 w_836 rfl rfl (Nat.le_of_ble_eq_true rfl) dX11_shoot_121 (fun v_18 s_19 => ?_)
              exact aw_ireturn rfl dX11_shoot_124
          · refine aw_aload_n 0 dX11_shoot_78 rfl rfl ?_
            refine aw_bipush 7 dX11_shoot_79 (by decide) ?_
            refine aw_callVW_I (c11_refuse σ 7) (io_11 (by decide)) ci_11 (by decide) mk_11_refuse w_838 w_3 w_836 rfl rfl (Nat.le_of_ble_eq_true rfl) dX11_shoot_81 (fun v_20 s_21 => ?_)
            exact aw_ireturn rfl dX11_shoot_84
        · refine aw_aload_n 0 dX11_shoot_60 rfl rfl ?_
          refine aw_iconst 5 dX11_shoot_61 (by decide) ?_
          refine aw_callVW_I (c11_refuse σ 5) (io_11 (by decide)) ci_11 (by decide) mk_11_refuse w_838 w_3 w_836 rfl rfl (Nat.le_of_ble_eq_true rfl) dX11_shoot_62 (fun v_22 s_23 => ?_)
          exact aw_ireturn rfl dX11_shoot_65
  · refine aw_aload_n 0 dX11_shoot_19 rfl rfl ?_
    refine aw_iload 9 dX11_shoot_20 rfl ?_
    refine aw_callVW_I (c11_refuse σ v_1) (io_11 (by decide)) ci_11 (by decide) mk_11_refuse w_838 w_3 w_836 rfl rfl (Nat.le_of_ble_eq_true rfl) dX11_shoot_22 (fun v_24 s_25 => ?_)
    exact aw_ireturn rfl dX11_shoot_25
def F11_wipe (σ : Mem)  : Option (Int32 × Mem) :=
  bnd (gI σ 7 0 0 0) fun v_1 => bnd (sI σ 7 0 0 0 0) fun s_2 => bd (F11_answer s_2 v_1) fun v_3 s_4 => some (v_3, s_4)
set_option maxRecDepth 20000 in
theorem c11_wipe {l : Launch} {D : va_G} {ad : Nat → Nat → Nat → Nat} {cid : Nat → Nat → Nat → ClassId} (σ : Mem)  : AMF (XC l D ad cid) M11_wipe 1 eI [.ref (ad 11 0 0)] σ (F11_wipe σ) := by
  refine AM.ofW (by decide +kernel) (Nat.le_of_ble_eq_true rfl) (ls := [(0, .ref (ad 11 0 0))]) rfl ?_
  refine aw_entry ?_
  unfold F11_wipe
  refine aw_aload_n 0 dX11_wipe_0 rfl rfl ?_
  refine aw_getf (fg_11_9 (by decide)) ci_11 (by decide) w_726 dX11_wipe_1 ?_
  refine aw_getf (fg_7_0 (by decide)) ci_7 (by decide) w_462 dX11_wipe_4 ?_
  refine aw_bnd_int (fun v_1 => ?_)
  refine aw_istore_n (ls' := [(0, .ref (ad 11 0 0)), (1, .int v_1)]) [1, 0] dX11_wipe_7 rfl (by decide) rfl ?_
  refine aw_aload_n 0 dX11_wipe_8 rfl rfl ?_
  refine aw_getf (fg_11_9 (by decide)) ci_11 (by decide) w_726 dX11_wipe_9 ?_
  refine aw_iconst 0 dX11_wipe_12 (by decide) ?_
  refine aw_putI (fs_7_0 (by decide)) ci_7 (by decide) rfl rfl w_462 dX11_wipe_13 ?_
  refine aw_bndM (fun s_2 => ?_)
  refine aw_aload_n 0 dX11_wipe_16 rfl rfl ?_
  refine aw_iload_n 1 dX11_wipe_17 rfl rfl ?_
  refine aw_callVW_I (c11_answer s_2 v_1) (io_11 (by decide)) ci_11 (by decide) mk_11_answer w_975 w_15 w_973 rfl rfl (Nat.le_of_ble_eq_true rfl) dX11_wipe_18 (fun v_3 s_4 => ?_)
  exact aw_ireturn rfl dX11_wipe_21
def F4_begin (σ : Mem) (t0 : Nat) (x1 : Int32) : Option (Unit × Mem) :=
  bnd (sB σ 4 t0 0 0 true) fun s_1 => bnd (sI s_1 4 t0 0 1 0) fun s_2 => bnd (sI s_2 4 t0 0 2 0) fun s_3 => bnd (sI s_3 4 t0 0 3 0) fun s_4 => bnd (sI s_4 4 t0 0 4 0) fun s_5 => bnd (sI s_5 4 t0 0 5 0) fun s_6 => bnd (sI s_6 4 t0 0 6 0) fun s_7 => bnd (sI s_7 4 t0 0 7 x1) fun s_8 => bnd (sI s_8 4 t0 0 8 0) fun s_9 => bnd (sI s_9 4 t0 0 9 20) fun s_10 => bnd (sI s_10 6 (1 + t0) 0 1 0) fun s_11 => bnd (sI s_11 6 (1 + t0) 0 4 0) fun s_12 => bnd (sI s_12 6 (1 + t0) 0 5 0) fun s_13 => some ((), s_13)
set_option maxRecDepth 20000 in
theorem c4_begin {l : Launch} {D : va_G} {ad : Nat → Nat → Nat → Nat} {cid : Nat → Nat → Nat → ClassId} (σ : Mem) (t0 : Nat) (ht0 : t0 < 2) (x1 : Int32) : AMF (XC l D ad cid) M4_begin 0 eU [.ref (ad 4 t0 0), .int x1] σ (F4_begin σ t0 x1) := by
  refine AM.ofW (by decide +kernel) (Nat.le_of_ble_eq_true rfl) (ls := [(0, .ref (ad 4 t0 0)), (1, .int x1)]) rfl ?_
  refine aw_entry ?_
  unfold F4_begin
  refine aw_aload_n 0 dX4_begin_0 rfl rfl ?_
  refine aw_iconst 1 dX4_begin_1 (by decide) ?_
  refine aw_putB (v := true) rfl (fs_4_0 (by omega)) ci_4 (by decide) rfl rfl w_673 dX4_begin_2 ?_
  refine aw_bndM (fun s_1 => ?_)
  refine aw_aload_n 0 dX4_begin_5 rfl rfl ?_
  refine aw_iconst 0 dX4_begin_6 (by decide) ?_
  refine aw_putI (fs_4_1 (by omega)) ci_4 (by decide) rfl rfl w_675 dX4_begin_7 ?_
  refine aw_bndM (fun s_2 => ?_)
  refine aw_aload_n 0 dX4_begin_10 rfl rfl ?_
  refine aw_iconst 0 dX4_begin_11 (by decide) ?_
  refine aw_putI (fs_4_2 (by omega)) ci_4 (by decide) rfl rfl w_677 dX4_begin_12 ?_
  refine aw_bndM (fun s_3 => ?_)
  refine aw_aload_n 0 dX4_begin_15 rfl rfl ?_
  refine aw_iconst 0 dX4_begin_16 (by decide) ?_
  refine aw_putI (fs_4_3 (by omega)) ci_4 (by decide) rfl rfl w_679 dX4_begin_17 ?_
  refine aw_bndM (fun s_4 => ?_)
  refine aw_aload_n 0 dX4_begin_20 rfl rfl ?_
  refine aw_iconst 0 dX4_begin_21 (by decide) ?_
  refine aw_putI (fs_4_4 (by omega)) ci_4 (by decide) rfl rfl w_681 dX4_begin_22 ?_
  refine aw_bndM (fun s_5 => ?_)
  refine aw_aload_n 0 dX4_begin_25 rfl rfl ?_
  refine aw_iconst 0 dX4_begin_26 (by decide) ?_
  refine aw_putI (fs_4_5 (by omega)) ci_4 (by decide) rfl rfl w_683 dX4_begin_27 ?_
  refine aw_bndM (fun s_6 => ?_)
  refine aw_aload_n 0 dX4_begin_30 rfl rfl ?_
  refine aw_iconst 0 dX4_begin_31 (by decide) ?_
  refine aw_putI (fs_4_6 (by omega)) ci_4 (by decide) rfl rfl w_685 dX4_begin_32 ?_
  refine aw_bndM (fun s_7 => ?_)
  refine aw_aload_n 0 dX4_begin_35 rfl rfl ?_
  refine aw_iload_n 1 dX4_begin_36 rfl rfl ?_
  refine aw_putI (fs_4_7 (by omega)) ci_4 (by decide) rfl rfl w_687 dX4_begin_37 ?_
  refine aw_bndM (fun s_8 => ?_)
  refine aw_aload_n 0 dX4_begin_40 rfl rfl ?_
  refine aw_iconst 0 dX4_begin_41 (by decide) ?_
  refine aw_putI (fs_4_8 (by omega)) ci_4 (by decide) rfl rfl w_688 dX4_begin_42 ?_
  refine aw_bndM (fun s_9 => ?_)
  refine aw_aload_n 0 dX4_begin_45 rfl rfl ?_
  refine aw_bipush 20 dX4_begin_46 (by decide) ?_
  refine aw_putI (fs_4_9 (by omega)) ci_4 (by decide) rfl rfl w_689 dX4_begin_48 ?_
  refine aw_bndM (fun s_10 => ?_)
  refine aw_aload_n 0 dX4_begin_51 rfl rfl ?_
  refine aw_getf (fg_4_11 (by omega)) ci_4 (by decide) w_691 dX4_begin_52 ?_
  refine aw_iconst 0 dX4_begin_55 (by decide) ?_
  refine aw_putI (fs_6_1 (by omega)) ci_6 (by decide) rfl rfl w_543 dX4_begin_56 ?_
  refine aw_bndM (fun s_11 => ?_)
  refine aw_aload_n 0 dX4_begin_59 rfl rfl ?_
  refine aw_getf (fg_4_11 (by omega)) ci_4 (by decide) w_691 dX4_begin_60 ?_
  refine aw_iconst 0 dX4_begin_63 (by decide) ?_
  refine aw_putI (fs_6_4 (by omega)) ci_6 (by decide) rfl rfl w_552 dX4_begin_64 ?_
  refine aw_bndM (fun s_12 => ?_)
  refine aw_aload_n 0 dX4_begin_67 rfl rfl ?_
  refine aw_getf (fg_4_11 (by omega)) ci_4 (by decide) w_691 dX4_begin_68 ?_
  refine aw_iconst 0 dX4_begin_71 (by decide) ?_
  refine aw_putI (fs_6_5 (by omega)) ci_6 (by decide) rfl rfl w_555 dX4_begin_72 ?_
  refine aw_bndM (fun s_13 => ?_)
  exact aw_return rfl dX4_begin_75
