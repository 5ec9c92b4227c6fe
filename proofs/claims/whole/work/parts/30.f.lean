def F11_within (x0 : Int32) (x1 : Int32) (x2 : Int32) : Bool :=
  if x0 < x1 then (false) else (if x2 < x0 then (false) else (true))
set_option maxRecDepth 20000 in
theorem c11_within {l : Launch} {D : va_G} {ad : Nat → Nat → Nat → Nat} {cid : Nat → Nat → Nat → ClassId} (σ : Mem) (x0 : Int32) (x1 : Int32) (x2 : Int32) : AMF (XC l D ad cid) M11_within 0 eB [.int x0, .int x1, .int x2] σ (some (F11_within x0 x1 x2, σ)) := by
  refine AM.ofW (by decide +kernel) (Nat.le_of_ble_eq_true rfl) (ls := [(0, .int x0), (1, .int x1), (2, .int x2)]) rfl ?_
  refine aw_entryT ?_
  unfold F11_within
  refine aw_iload_n 0 dX11_within_0 rfl rfl ?_
  refine aw_iload_n 1 dX11_within_1 rfl rfl ?_
  refine aw_iteT ?_
  refine aw_icmp_lt 14 dX11_within_2 (by decide) ?_ ?_
  · refine aw_iconst 0 dX11_within_14 (by decide) ?_
    exact aw_zreturn (b := false) rfl rfl dX11_within_15
  · refine aw_iload_n 0 dX11_within_5 rfl rfl ?_
    refine aw_iload_n 2 dX11_within_6 rfl rfl ?_
    refine aw_iteT ?_
    refine aw_icmp_gt 14 dX11_within_7 (by decide) ?_ ?_
    · refine aw_iconst 0 dX11_within_14 (by decide) ?_
      exact aw_zreturn (b := false) rfl rfl dX11_within_15
    · refine aw_iconst 1 dX11_within_10 (by decide) ?_
      refine aw_goto 15 dX11_within_11 (by decide) ?_
      exact aw_zreturn (b := true) rfl rfl dX11_within_15
def F20_fillL_L6 (a0 : Nat) (b0 : Nat) (c0 : Nat) (n0 : Nat) (y1 : Int64) (x4 : Int32) : Nat → Mem → Int32 → Option ((Unit) × Mem)
  | 0 => fun _ _ => none
  | n + 1 => fun σ x3 =>
    if x4 ≤ x3 then (some ((), σ)) else (chk n0 x3 <| bnd (sL σ a0 b0 c0 (Int32.toNatClampNeg x3) y1) fun s_2 => (F20_fillL_L6 a0 b0 c0 n0 y1 x4 n) s_2 (x3 + 1))
set_option maxRecDepth 20000 in
theorem c20_fillL_L6 {X : Ctx} {α : Type} {emb : α → Option Value} (a0 : Nat) (b0 : Nat) (c0 : Nat) (n0 : Nat) (hn0 : IsL X a0 b0 c0 n0) (y1 : Int64) (x4 : Int32) {G : Unit → Mem → Option (α × Mem)} (kx : ∀ r σ, AW X M20_fillL 0 emb [] 22 [] σ (G r σ)) : ∀ (n : Nat) (σ : Mem) (x3 : Int32), AW X M20_fillL 0 emb [(0, .ref (X.2.2.2.2.1 a0 b0 c0)), (1, .long y1), (3, .int x3), (4, .int x4)] 6 [] σ (bd (F20_fillL_L6 a0 b0 c0 n0 y1 x4 n σ x3) G) := by
  intro n
  induction n with
  | zero => intros; exact aw_none
  | succ n ih =>
    intro σ x3
    refine aw_bdB ?_
    rw [F20_fillL_L6.eq_2]
    refine aw_iload_n 2 dX20_fillL_6 rfl rfl ?_
    refine aw_iload 3 dX20_fillL_7 rfl ?_
    refine aw_icmp_ge 22 dX20_fillL_9 (by decide) ?_ ?_
    · refine aw_ls (ls' := []) [] rfl ?_
      exact kx () σ
    · refine aw_aload_n 0 dX20_fillL_12 rfl rfl ?_
      refine aw_iload_n 2 dX20_fillL_13 rfl rfl ?_
      refine aw_lload_n 1 dX20_fillL_14 rfl rfl ?_
      refine aw_lastore hn0 dX20_fillL_15 ?_
      refine aw_bndM (fun s_2 => ?_)
      refine aw_iinc (ls' := [(0, .ref (X.2.2.2.2.1 a0 b0 c0)), (1, .long y1), (3, .int (x3 + 1)), (4, .int x4)]) (x3 + 1) 2 [1, 2, 0, 3] dX20_fillL_16 rfl (by rfl) (by decide) rfl ?_
      refine aw_goto 6 dX20_fillL_19 (by decide) ?_
      exact ih s_2 (x3 + 1)
def F20_fillL (σ : Mem) (a0 : Nat) (b0 : Nat) (c0 : Nat) (n0 : Nat) (y1 : Int64) : Option (Unit × Mem) :=
  bnd (Int32.ofNat n0) fun v_1 => bd (F20_fillL_L6 a0 b0 c0 n0 y1 v_1 fuelK σ 0) fun r_3 s_4 => some ((), s_4)
set_option maxRecDepth 20000 in
theorem c20_fillL {X : Ctx} (σ : Mem) (a0 : Nat) (b0 : Nat) (c0 : Nat) (n0 : Nat) (hn0 : IsL X a0 b0 c0 n0) (y1 : Int64) : AMF X M20_fillL 0 eU [.ref (X.2.2.2.2.1 a0 b0 c0), .long y1] σ (F20_fillL σ a0 b0 c0 n0 y1) := by
  refine AM.ofW (by decide +kernel) (Nat.le_of_ble_eq_true rfl) (ls := [(0, .ref (X.2.2.2.2.1 a0 b0 c0)), (1, .long y1)]) rfl ?_
  refine aw_entry ?_
  unfold F20_fillL
  refine aw_iconst 0 dX20_fillL_0 (by decide) ?_
  refine aw_istore_n (ls' := [(0, .ref (X.2.2.2.2.1 a0 b0 c0)), (1, .long y1), (3, .int 0)]) [1, 2, 0] dX20_fillL_1 rfl (by decide) rfl ?_
  refine aw_aload_n 0 dX20_fillL_2 rfl rfl ?_
  refine aw_alenL hn0 rfl dX20_fillL_3 ?_
  refine aw_bnd_int (fun v_1 => ?_)
  refine aw_istore (ls' := [(0, .ref (X.2.2.2.2.1 a0 b0 c0)), (1, .long y1), (3, .int 0), (4, .int v_1)]) [1, 2, 3, 0] dX20_fillL_4 (by decide) rfl ?_
  refine aw_assocW ?_
  refine c20_fillL_L6 a0 b0 c0 n0 hn0 y1 v_1 (fun r_3 s_4 => ?_) fuelK σ 0
  exact aw_return rfl dX20_fillL_22
def F10_lay (σ : Mem) (t0 : Nat) (x1 : Int32) (x2 : Int32) : Option (Unit × Mem) :=
  bnd (sB σ 10 t0 0 0 true) fun s_1 => bnd (sI s_1 10 t0 0 1 x1) fun s_2 => bnd (sI s_2 10 t0 0 2 x2) fun s_3 => bd (F20_fillL s_3 10 t0 1 60 0) fun _ s_4 => some ((), s_4)
set_option maxRecDepth 20000 in
theorem c10_lay {l : Launch} {D : va_G} {ad : Nat → Nat → Nat → Nat} {cid : Nat → Nat → Nat → ClassId} (σ : Mem) (t0 : Nat) (ht0 : t0 < 4) (x1 : Int32) (x2 : Int32) : AMF (XC l D ad cid) M10_lay 1 eU [.ref (ad 10 t0 0), .int x1, .int x2] σ (F10_lay σ t0 x1 x2) := by
  refine AM.ofW (by decide +kernel) (Nat.le_of_ble_eq_true rfl) (ls := [(0, .ref (ad 10 t0 0)), (1, .int x1), (2, .int x2)]) rfl ?_
  refine aw_entry ?_
  unfold F10_lay
  refine aw_aload_n 0 dX10_lay_0 rfl rfl ?_
  refine aw_iconst 1 dX10_lay_1 (by decide) ?_
  refine aw_putB (v := true) rfl (fs_10_0 (by omega)) ci_10 (by decide) rfl rfl w_175 dX10_lay_2 ?_
  refine aw_bndM (fun s_1 => ?_)
  refine aw_aload_n 0 dX10_lay_5 rfl rfl ?_
  refine aw_iload_n 1 dX10_lay_6 rfl rfl ?_
  refine aw_putI (fs_10_1 (by omega)) ci_10 (by decide) rfl rfl w_177 dX10_lay_7 ?_
  refine aw_bndM (fun s_2 => ?_)
  refine aw_aload_n 0 dX10_lay_10 rfl rfl ?_
  refine aw_iload_n 2 dX10_lay_11 rfl rfl ?_
  refine aw_putI (fs_10_2 (by omega)) ci_10 (by decide) rfl rfl w_179 dX10_lay_12 ?_
  refine aw_bndM (fun s_3 => ?_)
  refine aw_aload_n 0 dX10_lay_15 rfl rfl ?_
  refine aw_getf (fg_10_3 (by omega)) ci_10 (by decide) w_180 dX10_lay_16 ?_
  refine aw_lconst 0 dX10_lay_19 (by decide) ?_
  refine aw_callSW_U (c20_fillL s_3 10 t0 1 60 (ar_10_1 (by omega)) 0) (by decide) mk_20_fillL w_808 w_807 rfl rfl (Nat.le_of_ble_eq_true rfl) dX10_lay_20 (fun _ s_4 => ?_)
  exact aw_return rfl dX10_lay_23
def F20_fillI_L5 (a0 : Nat) (b0 : Nat) (c0 : Nat) (n0 : Nat) (x1 : Int32) (x3 : Int32) : Nat → Mem → Int32 → Option ((Unit) × Mem)
  | 0 => fun _ _ => none
  | n + 1 => fun σ x2 =>
    if x3 ≤ x2 then (some ((), σ)) else (chk n0 x2 <| bnd (sI σ a0 b0 c0 (Int32.toNatClampNeg x2) x1) fun s_2 => (F20_fillI_L5 a0 b0 c0 n0 x1 x3 n) s_2 (x2 + 1))
set_option maxRecDepth 20000 in
theorem c20_fillI_L5 {X : Ctx} {α : Type} {emb : α → Option Value} (a0 : Nat) (b0 : Nat) (c0 : Nat) (n0 : Nat) (hn0 : IsI X a0 b0 c0 n0 .int) (x1 : Int32) (x3 : Int32) {G : Unit → Mem → Option (α × Mem)} (kx : ∀ r σ, AW X M20_fillI 0 emb [] 20 [] σ (G r σ)) : ∀ (n : Nat) (σ : Mem) (x2 : Int32), AW X M20_fillI 0 emb [(0, .ref (X.2.2.2.2.1 a0 b0 c0)), (1, .int x1), (2, .int x2), (3, .int x3)] 5 [] σ (bd (F20_fillI_L5 a0 b0 c0 n0 x1 x3 n σ x2) G) := by
  intro n
  induction n with
  | zero => intros; exact aw_none
  | succ n ih =>
    intro σ x2
    refine aw_bdB ?_
    rw [F20_fillI_L5.eq_2]
    refine aw_iload_n 2 dX20_fillI_5 rfl rfl ?_
    refine aw_iload_n 3 dX20_fillI_6 rfl rfl ?_
    refine aw_icmp_ge 20 dX20_fillI_7 (by decide) ?_ ?_
    · refine aw_ls (ls' := []) [] rfl ?_
      exact kx () σ
    · refine aw_aload_n 0 dX20_fillI_10 rfl rfl ?_
      refine aw_iload_n 2 dX20_fillI_11 rfl rfl ?_
      refine aw_iload_n 1 dX20_fillI_12 rfl rfl ?_
      refine aw_iastore hn0 dX20_fillI_13 ?_
      refine aw_bndM (fun s_2 => ?_)
      refine aw_iinc (ls' := [(0, .ref (X.2.2.2.2.1 a0 b0 c0)), (1, .int x1), (2, .int (x2 + 1)), (3, .int x3)]) (x2 + 1) 2 [1, 2, 0, 3] dX20_fillI_14 rfl (by rfl) (by decide) rfl ?_
      refine aw_goto 5 dX20_fillI_17 (by decide) ?_
      exact ih s_2 (x2 + 1)
def F20_fillI (σ : Mem) (a0 : Nat) (b0 : Nat) (c0 : Nat) (n0 : Nat) (x1 : Int32) : Option (Unit × Mem) :=
  bnd (Int32.ofNat n0) fun v_1 => bd (F20_fillI_L5 a0 b0 c0 n0 x1 v_1 fuelK σ 0) fun r_3 s_4 => some ((), s_4)
set_option maxRecDepth 20000 in
theorem c20_fillI {X : Ctx} (σ : Mem) (a0 : Nat) (b0 : Nat) (c0 : Nat) (n0 : Nat) (hn0 : IsI X a0 b0 c0 n0 .int) (x1 : Int32) : AMF X M20_fillI 0 eU [.ref (X.2.2.2.2.1 a0 b0 c0), .int x1] σ (F20_fillI σ a0 b0 c0 n0 x1) := by
  refine AM.ofW (by decide +kernel) (Nat.le_of_ble_eq_true rfl) (ls := [(0, .ref (X.2.2.2.2.1 a0 b0 c0)), (1, .int x1)]) rfl ?_
  refine aw_entry ?_
  unfold F20_fillI
  refine aw_iconst 0 dX20_fillI_0 (by decide) ?_
  refine aw_istore_n (ls' := [(0, .ref (X.2.2.2.2.1 a0 b0 c0)), (1, .int x1), (2, .int 0)]) [1, 2, 0] dX20_fillI_1 rfl (by decide) rfl ?_
  refine aw_aload_n 0 dX20_fillI_2 rfl rfl ?_
  refine aw_alenI hn0 rfl dX20_fillI_3 ?_
  refine aw_bnd_int (fun v_1 => ?_)
  refine aw_istore_n (ls' := [(0, .ref (X.2.2.2.2.1 a0 b0 c0)), (1, .int x1), (2, .int 0), (3, .int v_1)]) [1, 2, 3, 0] dX20_fillI_4 rfl (by decide) rfl ?_
  refine aw_assocW ?_
  refine c20_fillI_L5 a0 b0 c0 n0 hn0 x1 v_1 (fun r_3 s_4 => ?_) fuelK σ 0
  exact aw_return rfl dX20_fillI_20
def F9_fitOf (σ : Mem) (t0 : Nat) (x1 : Int32) : Option Int32 :=
  (ald 8 (gI σ 9 t0 4) x1).bind fun v_1 => some ((gI σ 9 t0 0 1) - v_1)
set_option maxRecDepth 20000 in
theorem c9_fitOf {l : Launch} {D : va_G} {ad : Nat → Nat → Nat → Nat} {cid : Nat → Nat → Nat → ClassId} (σ : Mem) (t0 : Nat) (ht0 : t0 < 5) (x1 : Int32) : AMF (XC l D ad cid) M9_fitOf 0 eI [.ref (ad 9 t0 0), .int x1] σ (oM σ (F9_fitOf σ t0 x1)) := by
  refine AM.ofW (by decide +kernel) (Nat.le_of_ble_eq_true rfl) (ls := [(0, .ref (ad 9 t0 0)), (1, .int x1)]) rfl ?_
  refine aw_entryO ?_
  unfold F9_fitOf
  refine aw_aload_n 0 dX9_fitOf_0 rfl rfl ?_
  refine aw_getf (fg_9_1 (by omega)) ci_9 (by decide) w_322 dX9_fitOf_1 ?_
  refine aw_aload_n 0 dX9_fitOf_4 rfl rfl ?_
  refine aw_getf (fg_9_9 (by omega)) ci_9 (by decide) w_340 dX9_fitOf_5 ?_
  refine aw_iload_n 1 dX9_fitOf_8 rfl rfl ?_
  refine aw_iaload (ar_9_4 (by omega)) dX9_fitOf_9 (fun v_1 => ?_)
  refine aw_isub dX9_fitOf_10 ?_
  exact aw_ireturn rfl dX9_fitOf_11
def F9_lastRing_L14 (σ : Mem) (t0 : Nat) (x3 : Int32) : Nat → Int32 → Int32 → Option (Int32)
  | 0 => fun _ _ => none
  | n + 1 => fun x4 x5 =>
    if (gI σ 9 t0 0 4) ≤ x5 then (some x4) else ((ald 6 (gI σ 9 t0 1) x5).bind fun v_2 => (ald 6 (gI σ 9 t0 1) x5).bind fun v_3 => if (v_2 * v_3) < x3 then (some x4) else ((F9_lastRing_L14 σ t0 x3 n) x5 (x5 + 1)))
set_option maxRecDepth 20000 in
theorem c9_lastRing_L14 {l : Launch} {D : va_G} {ad : Nat → Nat → Nat → Nat} {cid : Nat → Nat → Nat → ClassId} {α : Type} {emb : α → Option Value} (σ : Mem) (t0 : Nat) (ht0 : t0 < 5) (x3 : Int32) {G : Int32 → Option (α × Mem)} (kx : ∀ r, AW (XC l D ad cid) M9_lastRing 0 emb [(4, .int r)] 52 [] σ (G r)) : ∀ (n : Nat) (x4 : Int32) (x5 : Int32), AW (XC l D ad cid) M9_lastRing 0 emb [(0, .ref (ad 9 t0 0)), (3, .int x3), (4, .int x4), (5, .int x5)] 14 [] σ ((F9_lastRing_L14 σ t0 x3 n x4 x5).bind G) := by
  intro n
  induction n with
  | zero => intros; exact aw_none
  | succ n ih =>
    intro x4 x5
    rw [F9_lastRing_L14.eq_2]
    refine aw_iload 3 dX9_lastRing_14 rfl ?_
    refine aw_aload_n 0 dX9_lastRing_16 rfl rfl ?_
    refine aw_getf (fg_9_4 (by omega)) ci_9 (by decide) w_330 dX9_lastRing_17 ?_
    refine aw_icmp_ge 52 dX9_lastRing_20 (by decide) ?_ ?_
    · refine aw_ls (ls' := [(4, .int x4)]) [2] rfl ?_
      exact kx x4
    · refine aw_iload_n 1 dX9_lastRing_23 rfl rfl ?_
      refine aw_aload_n 0 dX9_lastRing_24 rfl rfl ?_
      refine aw_getf (fg_9_5 (by omega)) ci_9 (by decide) w_332 dX9_lastRing_25 ?_
      refine aw_iload 3 dX9_lastRing_28 rfl ?_
      refine aw_iaload (ar_9_1 (by omega)) dX9_lastRing_30 (fun v_2 => ?_)
      refine aw_aload_n 0 dX9_lastRing_31 rfl rfl ?_
      refine aw_getf (fg_9_5 (by omega)) ci_9 (by decide) w_332 dX9_lastRing_32 ?_
      refine aw_iload 3 dX9_lastRing_35 rfl ?_
      refine aw_iaload (ar_9_1 (by omega)) dX9_lastRing_37 (fun v_3 => ?_)
      refine aw_imul dX9_lastRing_38 ?_
      refine aw_icmp_gt 52 dX9_lastRing_39 (by decide) ?_ ?_
      · refine aw_ls (ls' := [(4, .int x4)]) [2] rfl ?_
        exact kx x4
      · refine aw_iload 3 dX9_lastRing_42 rfl ?_
        refine aw_istore (ls' := [(0, .ref (ad 9 t0 0)), (3, .int x3), (4, .int x5), (5, .int x5)]) [1, 2, 0, 3] dX9_lastRing_44 (by decide) rfl ?_
        refine aw_iinc (ls' := [(0, .ref (ad 9 t0 0)), (3, .int x3), (4, .int x5), (5, .int (x5 + 1))]) (x5 + 1) 3 [1, 2, 3, 0] dX9_lastRing_46 rfl (by rfl) (by decide) rfl ?_
        refine aw_goto 14 dX9_lastRing_49 (by decide) ?_
        exact ih x5 (x5 + 1)
def F9_lastRing (σ : Mem) (t0 : Nat) (x1 : Int32) (x2 : Int32) : Option Int32 :=
  bnd ((x1 * x1) + (x2 * x2)) fun v_1 => (F9_lastRing_L14 σ t0 v_1 fuelK (-1) 0).bind fun r_4 => some r_4
set_option maxRecDepth 20000 in
theorem c9_lastRing {l : Launch} {D : va_G} {ad : Nat → Nat → Nat → Nat} {cid : Nat → Nat → Nat → ClassId} (σ : Mem) (t0 : Nat) (ht0 : t0 < 5) (x1 : Int32) (x2 : Int32) : AMF (XC l D ad cid) M9_lastRing 0 eI [.ref (ad 9 t0 0), .int x1, .int x2] σ (oM σ (F9_lastRing σ t0 x1 x2)) := by
  refine AM.ofW (by decide +kernel) (Nat.le_of_ble_eq_true rfl) (ls := [(0, .ref (ad 9 t0 0)), (1, .int x1), (2, .int x2)]) rfl ?_
  refine aw_entryO ?_
  unfold F9_lastRing
  refine aw_iload_n 1 dX9_lastRing_0 rfl rfl ?_
  refine aw_iload_n 1 dX9_lastRing_1 rfl rfl ?_
  refine aw_imul dX9_lastRing_2 ?_
  refine aw_iload_n 2 dX9_lastRing_3 rfl rfl ?_
  refine aw_iload_n 2 dX9_lastRing_4 rfl rfl ?_
  refine aw_imul dX9_lastRing_5 ?_
  refine aw_iadd dX9_lastRing_6 ?_
  refine aw_bnd_int (fun v_1 => ?_)
  refine aw_istore_n (ls' := [(0, .ref (ad 9 t0 0)), (3, .int v_1)]) [1, 0] dX9_lastRing_7 rfl (by decide) rfl ?_
  refine aw_iconst (-1) dX9_lastRing_8 (by decide) ?_
  refine aw_istore (ls' := [(0, .ref (ad 9 t0 0)), (3, .int v_1), (4, .int (-1))]) [1, 2, 0] dX9_lastRing_9 (by decide) rfl ?_
  refine aw_iconst 0 dX9_lastRing_11 (by decide) ?_
  refine aw_istore (ls' := [(0, .ref (ad 9 t0 0)), (3, .int v_1), (4, .int (-1)), (5, .int 0)]) [1, 2, 3, 0] dX9_lastRing_12 (by decide) rfl ?_
  refine aw_assoc ?_
  refine c9_lastRing_L14 σ t0 (by omega) v_1 (fun r_4 => ?_) fuelK (-1) 0
  refine aw_iload 0 dX9_lastRing_52 rfl ?_
  exact aw_ireturn rfl dX9_lastRing_54
