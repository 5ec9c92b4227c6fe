/-! PURE. round: what stands behind a step's word. -/
section RRA
variable {σ τ σ1 τ1 σ2 τ2 σ0 τ0 : Mem} {L u r s e k t p w P S : Nat} {A RI RI1 : VI} {AL : VL} {C C1 : Nat → Int32} {W : Nat → Int64} {B : Nat → Bool} {N : Int32} {G : Mem → Mem → Prop}
theorem k_c5i (h : GS L u r σ0 τ0 s e A AL RI C W B N σ τ) {n c j : Nat} {v : Int32} {K : Mem → Option (Bool × Mem)} {Y : Option (Unit × Mem)} (hj : j < n) (hn : n < 1000)
    (ok : ∀ σ', GS L u r σ0 τ0 s e A AL (uV RI c j v) C W B N σ' τ → Fin2 u r σ0 τ0 G (K σ') Y) : Fin2 u r σ0 τ0 G (chk n (nI j) <| bnd (sI σ 5 r c (Int32.toNatClampNeg (nI j)) v) fun s => K s) Y := by
  rw [chk_nI hj (by omega), bnd_eq, cl_nI (by omega)]
  exact ok _ h.c5
/-- the names that there are, on both sides -/
def NmOk (t P S : Nat) (σ τ : Mem) : Prop :=
  (P ≤ 8 ∧ S ≤ 6) ∧ (gI σ 9 t 0 7 = nI P ∧ gI τ 12 0 5 5 = nI P ∧ ∀ i, i < P → gL σ 9 t 3 i = gL τ 12 0 7 i) ∧ (gI σ 9 t 0 13 = nI S ∧ gI τ 12 0 5 6 = nI S ∧ ∀ i, i < S → gL σ 9 t 8 i = gL τ 12 0 7 (8 + i))
theorem NmOk.pf (n : NmOk t P S σ0 τ0) (ht : t ≠ u) (f : PF u r σ0 τ0 σ τ) : NmOk t P S σ τ := by
  obtain ⟨⟨n1, n2⟩, ⟨n3, n4, n5⟩, n6, n7, n8⟩ := n
  obtain ⟨⟨-, f9, -⟩, -, -, -, -, m5, m6⟩ := f
  obtain ⟨a, b⟩ := f9 t ht
  exact ⟨⟨n1, n2⟩, ⟨by rw [a]; exact n3, by rw [m5 5 (by omega)]; exact n4, fun i hi => by rw [b, m6 i (by omega)]; exact n5 i hi⟩, by rw [a]; exact n6, by rw [m5 6 (by omega)]; exact n7, fun i hi => by rw [b, m6 (8 + i) (by omega)]; exact n8 i hi⟩
theorem findP_some {n : Nat} {nm : Int64} (hn : n ≤ 8) (hc : gI σ 9 t 0 7 = nI n) : ∀ k f i, i + k = n → k < f → ∃ v, F9_findPea_L2 t nm f σ (nI i) = some v := by
  intro k
  induction k with
  | zero =>
    intro f i hi hf
    obtain ⟨f, rfl⟩ : ∃ m, f = m + 1 := ⟨f - 1, by omega⟩
    obtain rfl : i = n := by omega
    simp only [F9_findPea_L2.eq_2]
    rw [hc, if_pos (Int32.le_refl _)]
    exact ⟨_, rfl⟩
  | succ k ih =>
    intro f i hi hf
    obtain ⟨f, rfl⟩ : ∃ m, f = m + 1 := ⟨f - 1, by omega⟩
    simp only [F9_findPea_L2.eq_2]
    rw [hc, if_neg (nI_ge (by omega) (by omega)), ald_nI (by omega) (by omega), Option.bind_some, nI_1]
    by_cases c : gL σ 9 t 3 i = nm
    · rw [if_pos c]; exact ⟨_, rfl⟩
    · rw [if_neg c]; exact ih f (i + 1) (by omega) (by omega)
theorem findS_some {n : Nat} {nm : Int64} (hn : n ≤ 6) (hc : gI σ 9 t 0 13 = nI n) : ∀ k f i, i + k = n → k < f → ∃ v, F9_findShooter_L2 t nm f σ (nI i) = some v := by
  intro k
  induction k with
  | zero =>
    intro f i hi hf
    obtain ⟨f, rfl⟩ : ∃ m, f = m + 1 := ⟨f - 1, by omega⟩
    obtain rfl : i = n := by omega
    simp only [F9_findShooter_L2.eq_2]
    rw [hc, if_pos (Int32.le_refl _)]
    exact ⟨_, rfl⟩
  | succ k ih =>
    intro f i hi hf
    obtain ⟨f, rfl⟩ : ∃ m, f = m + 1 := ⟨f - 1, by omega⟩
    simp only [F9_findShooter_L2.eq_2]
    rw [hc, if_neg (nI_ge (by omega) (by omega)), ald_nI (by omega) (by omega), Option.bind_some, nI_1]
    by_cases c : gL σ 9 t 8 i = nm
    · rw [if_pos c]; exact ⟨_, rfl⟩
    · rw [if_neg c]; exact ih f (i + 1) (by omega) (by omega)
/-- both look a name up: what they find -/
theorem look_both (n : NmOk t P S σ τ) (z : Bool) : ∃ v, (if z = true then F9_findPea σ t (gL σ 8 0 0 6) else F9_findShooter σ t (gL σ 8 0 0 6)) = some v ∧
    (gL σ 8 0 0 6 = gL τ 12 0 0 19 → (if z = true then F12_peaNamed τ 0 else F12_shooterNamed τ 0) = some v ∧ (v = -1 ∨ ∃ i, i < (if z = true then P else S) ∧ v = nI i)) := by
  obtain ⟨⟨n1, n2⟩, ⟨n3, n4, n5⟩, n6, n7, n8⟩ := n
  cases z with
  | true =>
    simp only [if_true]
    by_cases hn : gL σ 8 0 0 6 = gL τ 12 0 0 19
    · obtain ⟨v, f1, f2, f3⟩ := find_pea (σ := σ) (τ := τ) (t := t) (b := 0) (nm := gL σ 8 0 0 6) (by omega) n1 n3 n4 (fun i hi => by rw [n5 i hi, show 14 * 0 + i = i by omega]) hn P fuelK fuelK 0 (by omega) (fuelK_lt (by omega)) (fuelK_lt (by omega))
      exact ⟨v, f1, fun _ => ⟨f2, f3⟩⟩
    · obtain ⟨v, f1⟩ := findP_some (nm := gL σ 8 0 0 6) n1 n3 P fuelK 0 (by omega) (fuelK_lt (by omega))
      exact ⟨v, f1, fun h => absurd h hn⟩
  | false =>
    simp only [Bool.false_eq_true, if_false]
    by_cases hn : gL σ 8 0 0 6 = gL τ 12 0 0 19
    · obtain ⟨v, f1, f2, f3⟩ := find_sho (σ := σ) (τ := τ) (t := t) (b := 0) (nm := gL σ 8 0 0 6) (by omega) n2 n6 n7 (fun i hi => by rw [n8 i hi, show 14 * 0 + 8 + i = 8 + i by omega]) hn S fuelK fuelK 0 (by omega) (fuelK_lt (by omega)) (fuelK_lt (by omega))
      exact ⟨v, f1, fun _ => ⟨f2, f3⟩⟩
    · obtain ⟨v, f1⟩ := findS_some (nm := gL σ 8 0 0 6) n2 n6 S fuelK 0 (by omega) (fuelK_lt (by omega))
      exact ⟨v, f1, fun h => absurd h hn⟩
theorem b_told {z : Bool} {K : Int32 → Mem → Option (Unit × Mem)} (h : BS u r σ0 τ0 σ τ) (k : ∀ v, BR u r σ0 τ0 σ (K v τ)) : BR u r σ0 τ0 σ (bd (F12_readTold τ z) K) := by
  unfold F12_readTold F12_readTold_p18 F12_readTold_p46 F12_must
  rw [if_neg h.n2, if_neg h.n1, if_neg h.n2, if_neg h.n1, bdS, bdS]
  exact k 0
/-- a name that must be there -/
theorem k_told (h : GS L u r σ0 τ0 s e A AL RI C W B N σ τ) (nm : NmOk t P S σ0 τ0) (ht : t ≠ u) (hp : p < 60) (z : Bool) {K : Mem → Option (Bool × Mem)} {K' : Int32 → Mem → Option (Unit × Mem)}
    (ok : ∀ i σ' τ' s' e', i < (if z = true then P else S) → s < s' → GS L u r σ0 τ0 s' e' A AL (uV RI 2 p (nI i)) C W B N σ' τ' → Fin2 u r σ0 τ0 G (K σ') (K' (nI i) τ'))
    (no : ∀ v σ' τ', BS u r σ0 τ0 σ' τ' → BR u r σ0 τ0 σ' (K' v τ')) :
    Fin2 u r σ0 τ0 G ((if z = true then F9_findPea σ t (gL σ 8 0 0 6) else F9_findShooter σ t (gL σ 8 0 0 6)).bind fun v => chk 60 (nI p) <| bnd (sI σ 5 r 2 (Int32.toNatClampNeg (nI p)) v) fun s_9 => (ald 60 (gI s_9 5 r 2) (nI p)).bind fun v_10 => bd (F5_takeKnownName s_9 v_10) fun v s => if v = true then K s else some (false, s))
      (bd (F12_readTold τ z) K') := by
  obtain ⟨v, f1, f2⟩ := look_both (nm.pf ht h.1.1) z
  rw [f1, Option.bind_some, chk_nI hp (by omega), bnd_eq, cl_nI (by omega), ald_nI hp (by omega), Option.bind_some, rI_s]
  have h5 := h.c5 (c := 2) (j := p) (v := v)
  obtain ⟨n1, n2⟩ := h5.name
  have bad18 : ∀ σ' τ', BS u r σ0 τ0 σ' τ' → BR u r σ0 τ0 σ' (bd (F12_readTold_p18 τ' z) K') := by
    intro σ' τ' hb
    unfold F12_readTold_p18 F12_readTold_p46 F12_must
    rw [if_neg hb.n1, if_neg hb.n2, if_neg hb.n1, bdS, bdS]
    exact no 0 σ' τ' hb
  unfold F5_takeKnownName F12_readTold
  rw [n1, if_pos h.2.1.1]
  by_cases hn : F12_isName τ = true
  · obtain ⟨n3, n4⟩ := n2 hn
    rw [if_pos hn, if_pos hn]
    obtain ⟨q1, q2⟩ := f2 (show gL σ 8 0 0 6 = gL τ 12 0 0 19 from n4)
    have e18 : F12_readTold_p18 τ z = F12_readTold_p46 τ v := by
      unfold F12_readTold_p18
      rw [if_pos h.ok]
      cases z with
      | true => simp only [if_true] at q1 ⊢; rw [q1, Option.bind_some]
      | false => simp only [Bool.false_eq_true, if_false] at q1 ⊢; rw [q1, Option.bind_some]
    rw [e18]
    unfold F12_readTold_p46
    rw [if_pos h.2.1.1]
    rcases q2 with rfl | ⟨i, hi, rfl⟩
    · obtain ⟨σ', o1, τ', o2, o3⟩ := h5.bad (k := 3) (by decide) (by rw [n3]; decide)
      rw [if_pos rfl, if_neg (show ¬ (0 : Int32) ≤ -1 by decide), o1, o2, bdS, bdS, bdS, if_neg (by decide)]
      unfold F12_must
      rw [if_neg o3.n1, bdS, bdS]
      exact (no _ _ _ o3).fin
    · have hi2 : i < 1000 := by
        have := nm.1
        split at hi <;> omega
      obtain ⟨σ2, τ2, s2, e2, g1, g2, g3, g4, -⟩ := h5.nxt (go1 n3)
      rw [if_neg (nI_nn hi2).2.2, if_pos (nI_nn hi2).1]
      unfold F12_must
      rw [if_pos h.ok, if_pos rfl, g1, g2, bdS, bdS, bdS, bdS, bdS, if_pos rfl]
      exact ok i σ2 τ2 s2 e2 hi g3 g4
  · obtain ⟨σ', o1, τ', o2, o3⟩ := h5.wrong
    rw [if_neg hn, if_neg hn, o1, o2, bdS, bdS, bdS, if_neg (by decide)]
    exact (bad18 _ _ o3).fin
/-- what a step's rest comes to: only the step's own places and cells have changed -/
def RG (L u r : Nat) (σ0 τ0 : Mem) (s p w : Nat) (A : VI) (AL : VL) (RI : VI) (C : Nat → Int32) (W : Nat → Int64) (B : Nat → Bool) (N : Int32) (Q : VI → (Nat → Int32) → Prop) (σ τ : Mem) : Prop :=
  ∃ s' e' RI' C', s < s' ∧ GS L u r σ0 τ0 s' e' A AL RI' C' W B N σ τ ∧ (∀ x j, ¬ ((x = 2 ∨ x = 3 ∨ x = 4) ∧ j = p) → RI' x j = RI x j) ∧ (∀ j, ¬ (w < j ∧ j < w + 8) → C' j = C j) ∧ Q RI' C'
theorem RG.mk (h : GS L u r σ0 τ0 s e A AL RI1 C1 W B N σ τ) {s0 : Nat} {Q : VI → (Nat → Int32) → Prop} (h1 : s0 ≤ s) (h2 : ∀ x j, ¬ ((x = 2 ∨ x = 3 ∨ x = 4) ∧ j = p) → RI1 x j = RI x j) (h3 : ∀ j, ¬ (w < j ∧ j < w + 8) → C1 j = C j) (q : Q RI1 C1) :
    Fin2 u r σ0 τ0 (RG L u r σ0 τ0 s0 p w A AL RI C W B N Q) (F8_takeSemicolon σ) (F12_must τ (F12_isSign τ 59)) :=
  k_semi h (fun _ _ s9 e9 l9 h9 => ⟨s9, e9, RI1, C1, by omega, h9, h2, h3, q⟩)
/-- the class's rest of a step, the model's -/
abbrev cRest (σ : Mem) (r t : Nat) (x : Int32) (p : Nat) : Option (Bool × Mem) := bd (F5_parseRest σ r t x (nI p)) fun v s => if v = true then F8_takeSemicolon s else some (false, s)
abbrev mRest (τ : Mem) (w : Nat) : Option (Unit × Mem) := bd (F12_readRest τ (nI w)) fun _ s => F12_must s (F12_isSign s 59)
theorem uV3 {c : Nat} {v : Int32} (hc : c = 2 ∨ c = 3 ∨ c = 4) : ∀ x j, ¬ ((x = 2 ∨ x = 3 ∨ x = 4) ∧ j = p) → uV RI c p v x j = RI x j := fun x j hq => uV_n (fun h => hq ⟨by omega, h.2⟩)
theorem upd8 {i : Nat} {v : Int32} (h1 : w < i) (h2 : i < w + 8) : ∀ j, ¬ (w < j ∧ j < w + 8) → upd C i v j = C j := fun j hj => upd_ne (by omega)
/-- wipe, next, stop: nothing behind them -/
theorem rest_none (h : GS L u r σ0 τ0 s e A AL RI C W B N σ τ) (hw : w < 2990) {x kd : Int32} (hx : (x = 21 ∧ kd = 5) ∨ (x = 22 ∧ kd = 6) ∨ (x = 29 ∧ kd = 9)) (hc : C w = kd) :
    Fin2 u r σ0 τ0 (RG L u r σ0 τ0 s p w A AL RI C W B N fun _ _ => True) (cRest σ r t x p) (mRest τ w) := by
  have eC : ald 3000 (gI τ 12 0 5) (nI w) = some kd := by rw [h.cc, ald_nI (by omega) (by omega), hc]
  unfold cRest mRest F5_parseRest F12_readRest
  rw [eC, Option.bind_some]
  rcases hx with ⟨rfl, rfl⟩ | ⟨rfl, rfl⟩ | ⟨rfl, rfl⟩
  · simp (disch := decide) only [if_pos, if_neg, bdS, if_true]
    exact RG.mk h (Nat.le_refl s) (fun _ _ _ => rfl) (fun _ _ => rfl) trivial
  · simp (disch := decide) only [if_pos, if_neg, bdS, if_true]
    exact RG.mk h (Nat.le_refl s) (fun _ _ _ => rfl) (fun _ _ => rfl) trivial
  · simp (disch := decide) only [if_pos, if_neg, bdS, if_true]
    exact RG.mk h (Nat.le_refl s) (fun _ _ _ => rfl) (fun _ _ => rfl) trivial
/-- puff, beat, loop: a number -/
theorem rest_num (h : GS L u r σ0 τ0 s e A AL RI C W B N σ τ) (hp : p < 60) (hw0 : 2400 ≤ w) (hw : w < 2990) {x kd lo hi : Int32} (hx : (x = 13 ∧ kd = 2 ∧ lo = 1 ∧ hi = 40) ∨ (x = 19 ∧ kd = 3 ∧ lo = 0 ∧ hi = 3) ∨ (x = 27 ∧ kd = 8 ∧ lo = 1 ∧ hi = 99)) (hc : C w = kd) :
    Fin2 u r σ0 τ0 (RG L u r σ0 τ0 s p w A AL RI C W B N fun R' C' => R' 2 p = C' (w + 1) ∧ lo ≤ C' (w + 1) ∧ C' (w + 1) ≤ hi) (cRest σ r t x p) (mRest τ w) := by
  have eC : ald 3000 (gI τ 12 0 5) (nI w) = some kd := by rw [h.cc, ald_nI (by omega) (by omega), hc]
  have core : Fin2 u r σ0 τ0 (RG L u r σ0 τ0 s p w A AL RI C W B N fun R' C' => R' 2 p = C' (w + 1) ∧ lo ≤ C' (w + 1) ∧ C' (w + 1) ≤ hi)
      (bd (F8_takeNumber σ lo hi) fun v_1 s_2 => if v_1 = true then (chk 60 (nI p) <| bnd (sI s_2 5 r 2 (Int32.toNatClampNeg (nI p)) (gI s_2 8 0 0 9)) fun s_3 => F8_takeSemicolon s_3) else some (false, s_2))
      (bd (F12_count τ lo hi) fun v_12 s_13 => chk 3000 (nI (w + 1)) <| bnd (sI s_13 12 0 5 (Int32.toNatClampNeg (nI (w + 1))) v_12) fun s_14 => F12_must s_14 (F12_isSign s_14 59)) := by
    refine k_num h (fun v σ1 τ1 s1 e1 v1 v2 l1 q1 h1 => ?_) (fun σ1 τ1 hb => ?_)
    rotate_left
    · exact b_cell hb rfl (by omega) (by omega) (fun τ2 hb => b_must0 hb)
    rw [q1]
    refine k_c5i h1 hp (by omega) (fun σ2 h2 => ?_)
    refine k_m5 h2 rfl (by omega) (by omega) (fun τ3 h3 _ => ?_)
    exact RG.mk h3 (by omega) (uV3 (.inl rfl)) (upd8 (by omega) (by omega)) ⟨by rw [uV_s, upd_s], by rw [upd_s]; exact v1, by rw [upd_s]; exact v2⟩
  unfold cRest mRest F5_parseRest F5_parseNumber F12_readRest
  rw [eC, Option.bind_some, ix1]
  rcases hx with ⟨rfl, rfl, rfl, rfl⟩ | ⟨rfl, rfl, rfl, rfl⟩ | ⟨rfl, rfl, rfl, rfl⟩
  · simp (disch := decide) only [if_pos, if_neg, bd_assoc, bd_bnd, bd_chk, bd_ite, bdS, bd_obind, bd_id, bd_u, Bool.false_eq_true, if_false, if_true]
    exact core
  · simp (disch := decide) only [if_pos, if_neg, bd_assoc, bd_bnd, bd_chk, bd_ite, bdS, bd_obind, bd_id, bd_u, Bool.false_eq_true, if_false, if_true]
    exact core
  · simp (disch := decide) only [if_pos, if_neg, bd_assoc, bd_bnd, bd_chk, bd_ite, bdS, bd_obind, bd_id, bd_u, Bool.false_eq_true, if_false, if_true]
    exact core
/-- load, shoot: a name -/
theorem rest_name (h : GS L u r σ0 τ0 s e A AL RI C W B N σ τ) (nm : NmOk t P S σ0 τ0) (ht : t ≠ u) (hp : p < 60) (hw0 : 2400 ≤ w) (hw : w < 2990) {x kd : Int32} {z : Bool} (hx : (x = 17 ∧ kd = 0 ∧ z = true) ∨ (x = 20 ∧ kd = 4 ∧ z = false)) (hc : C w = kd) :
    Fin2 u r σ0 τ0 (RG L u r σ0 τ0 s p w A AL RI C W B N fun R' C' => ∃ i, i < (if z = true then P else S) ∧ R' 2 p = nI i ∧ C' (w + 1) = nI i) (cRest σ r t x p) (mRest τ w) := by
  have eC : ald 3000 (gI τ 12 0 5) (nI w) = some kd := by rw [h.cc, ald_nI (by omega) (by omega), hc]
  have core : Fin2 u r σ0 τ0 (RG L u r σ0 τ0 s p w A AL RI C W B N fun R' C' => ∃ i, i < (if z = true then P else S) ∧ R' 2 p = nI i ∧ C' (w + 1) = nI i)
      ((if z = true then F9_findPea σ t (gL σ 8 0 0 6) else F9_findShooter σ t (gL σ 8 0 0 6)).bind fun v => chk 60 (nI p) <| bnd (sI σ 5 r 2 (Int32.toNatClampNeg (nI p)) v) fun s_9 => (ald 60 (gI s_9 5 r 2) (nI p)).bind fun v_10 => bd (F5_takeKnownName s_9 v_10) fun v s => if v = true then F8_takeSemicolon s else some (false, s))
      (bd (F12_readTold τ z) fun v_16 s_17 => chk 3000 (nI (w + 1)) <| bnd (sI s_17 12 0 5 (Int32.toNatClampNeg (nI (w + 1))) v_16) fun s_18 => F12_must s_18 (F12_isSign s_18 59)) := by
    refine k_told h nm ht hp z (fun i σ1 τ1 s1 e1 hi l1 h1 => ?_) (fun v σ1 τ1 hb => ?_)
    rotate_left
    · exact b_cell hb rfl (by omega) (by omega) (fun τ2 hb => b_must0 hb)
    refine k_m5 h1 rfl (by omega) (by omega) (fun τ3 h3 _ => ?_)
    exact RG.mk h3 (by omega) (uV3 (.inl rfl)) (upd8 (by omega) (by omega)) ⟨i, hi, uV_s, upd_s⟩
  unfold cRest mRest F5_parseRest F12_readRest
  rw [eC, Option.bind_some, ix1]
  rcases hx with ⟨rfl, rfl, rfl⟩ | ⟨rfl, rfl, rfl⟩
  · simp (disch := decide) only [if_pos, if_neg, bd_assoc, bd_bnd, bd_chk, bd_ite, bdS, bd_obind, bd_id, bd_u, Bool.false_eq_true, if_false, if_true] at core ⊢
    exact core
  · simp (disch := decide) only [if_pos, if_neg, bd_assoc, bd_bnd, bd_chk, bd_ite, bdS, bd_obind, bd_id, bd_u, Bool.false_eq_true, if_false, if_true] at core ⊢
    exact core
end RRA
