/-! PURE. mark, back. -/
section MAR
variable {σ τ σC σM σC1 σM1 : Mem}
/-- N with n numbers from S on come to D -/
def cpn {β : Type} (N : Nat → β) (S D n : Nat) : Nat → β := fun u => if D ≤ u ∧ u < D + n then N (S + (u - D)) else N u
theorem ix600 (t k : Nat) : (600 : Int32) * nI t + nI k = nI (600 * t + k) := by rw [show (600 : Int32) = nI 600 from rfl, pk_mul, nI_add]
theorem ix14 (t k : Nat) : (14 : Int32) * nI t + nI k = nI (14 * t + k) := by rw [show (14 : Int32) = nI 14 from rfl, pk_mul, nI_add]
theorem cpn_0 {β : Type} {N : Nat → β} {S D : Nat} : cpn N S D 0 = N := by
  funext u
  unfold cpn
  rw [if_neg (by omega)]
theorem cpn_1 {β : Type} {N : Nat → β} {S D k n u : Nat} (h : S + n ≤ D ∨ D + n ≤ S) (hk : k < n) : (if u = D + k then cpn N S D k (S + k) else cpn N S D k u) = cpn N S D (k + 1) u := by
  unfold cpn
  by_cases e : u = D + k
  · rw [if_pos e, if_neg (by omega), if_pos (by omega), show u - D = k by omega]
  · rw [if_neg e]
    by_cases c : D ≤ u ∧ u < D + k
    · rw [if_pos c, if_pos (by omega)]
    · rw [if_neg c, if_neg (by omega)]
theorem m_copyI {a b : Nat} (ha : a < 5) (hb : b < 5) (hab : a ≠ b) : ∃ r, F12_copy_L2 (nI a) (nI b) fuelK τ 0 = some r ∧ r.2 = sIf τ 12 0 5 (cpn (gI τ 12 0 5) (600 * a) (600 * b) 600) := by
  refine loopG (L := fun m (w : Mem × Int32) => F12_copy_L2 (nI a) (nI b) m w.1 w.2) (N := 600)
    (Inv := fun k w => w.2 = nI k ∧ w.1 = sIf τ 12 0 5 (cpn (gI τ 12 0 5) (600 * a) (600 * b) k)) ?_ 600 fuelK 0 (τ, 0) (by omega) (fuelK_lt (by omega)) ⟨rfl, by rw [cpn_0]; exact sIf_self.symm⟩
  rintro m k ⟨τ1, w⟩ hk ⟨e1, e2⟩
  simp only at e1 e2
  subst e1; subst e2
  simp only [F12_copy_L2.eq_2]
  by_cases e : k = 600
  · subst e
    exact .inl ⟨_, by rw [if_pos (show (600 : Int32) ≤ nI 600 from Int32.le_refl _)], rfl⟩
  · refine .inr ⟨by omega, ?_⟩
    rw [if_neg (show ¬ (600 : Int32) ≤ nI k from nI_ge (a := k) (b := 600) (by omega) (by omega)), ix600, ix600, rI_f, ald_nI (by omega) (by omega), Option.bind_some, chk_nI (by omega) (by omega), bnd_eq, cl_nI (by omega), nI_1]
    refine ⟨(sIf τ 12 0 5 (cpn (gI τ 12 0 5) (600 * a) (600 * b) (k + 1)), nI (k + 1)), ?_, rfl, rfl⟩
    simp only [sIf_sIf, rI_f]
    congr 2
    funext u
    rw [upd_eq]
    exact cpn_1 (n := 600) (by omega) (by omega)
theorem m_copyL {a b : Nat} (ha : a < 5) (hb : b < 5) (hab : a ≠ b) : ∃ r, F12_copy_L41 (nI a) (nI b) fuelK τ 0 = some r ∧ r.2 = sLf τ 12 0 7 (cpn (gL τ 12 0 7) (14 * a) (14 * b) 14) := by
  refine loopG (L := fun m (w : Mem × Int32) => F12_copy_L41 (nI a) (nI b) m w.1 w.2) (N := 14)
    (Inv := fun k w => w.2 = nI k ∧ w.1 = sLf τ 12 0 7 (cpn (gL τ 12 0 7) (14 * a) (14 * b) k)) ?_ 14 fuelK 0 (τ, 0) (by omega) (fuelK_lt (by omega)) ⟨rfl, by rw [cpn_0]; exact sLf_self.symm⟩
  rintro m k ⟨τ1, w⟩ hk ⟨e1, e2⟩
  simp only at e1 e2
  subst e1; subst e2
  simp only [F12_copy_L41.eq_2]
  by_cases e : k = 14
  · subst e
    exact .inl ⟨_, by rw [if_pos (show (14 : Int32) ≤ nI 14 from Int32.le_refl _)], rfl⟩
  · refine .inr ⟨by omega, ?_⟩
    rw [if_neg (show ¬ (14 : Int32) ≤ nI k from nI_ge (a := k) (b := 14) (by omega) (by omega)), ix14, ix14, rL_f, ald_nI (by omega) (by omega), Option.bind_some, chk_nI (by omega) (by omega), bnd_eq, cl_nI (by omega), nI_1]
    refine ⟨(sLf τ 12 0 7 (cpn (gL τ 12 0 7) (14 * a) (14 * b) (k + 1)), nI (k + 1)), ?_, rfl, rfl⟩
    simp only [sLf_sLf, rL_f]
    congr 2
    funext u
    rw [updL_eq]
    exact cpn_1 (n := 14) (by omega) (by omega)
/-- the model takes the block a over into b -/
theorem m_copyB {a b : Nat} (ha : a < 5) (hb : b < 5) (hab : a ≠ b) : ∃ τ', F12_copy τ (nI a) (nI b) = some ((), τ') ∧ FM [] [] [5, 7] τ τ' ∧
    (blkM τ' (600 * b) = blkM τ (600 * a) ∧ blkW τ' (14 * b) = blkW τ (14 * a)) ∧ (∀ c, c ≠ b → blkM τ' (600 * c) = blkM τ (600 * c) ∧ blkW τ' (14 * c) = blkW τ (14 * c)) := by
  obtain ⟨⟨u1, r1⟩, k1, k2⟩ := m_copyI (τ := τ) ha hb hab
  simp only at k2; subst k2
  obtain ⟨⟨u3, r3⟩, k3, k4⟩ := m_copyL (τ := sIf τ 12 0 5 (cpn (gI τ 12 0 5) (600 * a) (600 * b) 600)) ha hb hab
  simp only at k4; subst k4
  refine ⟨_, by unfold F12_copy; rw [k1, bd_some, k3, bd_some], FM.sPL (FM.sP FM.z (by decide) (by decide)) (by decide) (by decide), ⟨?_, ?_⟩, fun c hc => ⟨?_, ?_⟩⟩
  · funext j
    unfold blkM cM
    by_cases e : j < 600
    · rw [if_pos e, if_pos e, gI_sL, rI_f]
      unfold cpn
      rw [if_pos (by omega), show 600 * a + (600 * b + j - 600 * b) = 600 * a + j by omega]
    · rw [if_neg e, if_neg e]
  · funext j
    unfold blkW wM
    by_cases e : j < 14
    · rw [if_pos e, if_pos e, rL_f, gL_sI]
      unfold cpn
      rw [if_pos (by omega), show 14 * a + (14 * b + j - 14 * b) = 14 * a + j by omega]
    · rw [if_neg e, if_neg e]
  · funext j
    unfold blkM cM
    by_cases e : j < 600
    · rw [if_pos e, if_pos e, gI_sL, rI_f]
      unfold cpn
      rw [if_neg (by omega)]
    · rw [if_neg e, if_neg e]
  · funext j
    unfold blkW wM
    by_cases e : j < 14
    · rw [if_pos e, if_pos e, rL_f, gL_sI]
      unfold cpn
      rw [if_neg (by omega)]
    · rw [if_neg e, if_neg e]
/-- main block and marks changed, all else as it was -/
theorem RelP.blk (h : RelP σC σM) (f : FC [5, 7, 9, 11] σC σC1) (hr : gR σC1 11 = gR σC 11) (g : FM [0, 1, 23] [] [5, 7] σM σM1) (main : BlockR σC1 σM1 (gR σC1 11 0 0 5) 0 (gR σC1 11 0 0 7) 0 0)
    (mk : gI σC1 11 0 0 12 = gI σM1 12 0 0 23 ∧ 0 ≤ gI σM1 12 0 0 23 ∧ gI σM1 12 0 0 23 ≤ 3 ∧ ∀ i, i < nat (gI σM1 12 0 0 23) → BlockR σC1 σM1 (2 + i) (2 + i) (2 + i) (600 * (i + 1)) (14 * (i + 1))) : RelP σC1 σM1 := by
  obtain ⟨r1, ⟨r2, r2'⟩, r3, -, -, r9⟩ := h
  refine ⟨fun t ht => ?_, ⟨?_, by rw [f.fL 8 0 2 (by decide)]; exact r2'⟩, by rw [hr]; exact r3, main, mk, ?_⟩
  · rw [f.fB 10 t 0 (by decide), f.fI 10 t 0 (by decide), f.fL 10 t 1 (by decide), (g.2.2.2 1 (by decide) (by decide)).1, (g.2.2.2 2 (by decide) (by decide)).1, (g.2.2.2 3 (by decide) (by decide)).2]
    exact r1 t ht
  · unfold TapeR at *
    rw [f.fI 8 0 0 (by decide), f.fI 8 0 1 (by decide), g.1 8 (by decide), g.1 10 (by decide), g.1 11 (by decide), (g.2.2.2 4 (by decide) (by decide)).1]
    exact r2
  · rw [f.fB 4 0 0 (by decide), f.fI 4 0 0 (by decide), (g.2.2.2 12 (by decide) (by decide)).1, g.2.2.1]; exact r9
/-- the other instances after a block is taken over -/
theorem cp3_oth {σ1 σ2 σ3 : Mem} {t t' r r' y0 y' : Nat} {F9 F5 F7 : List Nat} {I9 L9 I5 L5 I7 L7 : List (Nat × Nat)} {b9 b5 b7 : Bool} (c9 : Cp 9 t' t σ σ1 F9 I9 L9 b9) (c5 : Cp 5 r' r σ1 σ2 F5 I5 L5 b5) (c7 : Cp 7 y' y0 σ2 σ3 F7 I7 L7 b7) :
    FC [5, 7, 9] σ σ3 ∧ (∀ e, e ≠ t' → gI σ3 9 e = gI σ 9 e ∧ gL σ3 9 e = gL σ 9 e) ∧ (∀ e, e ≠ y' → TY σ3 e = TY σ e) ∧ (∀ e, e ≠ r' → gI σ3 5 e = gI σ 5 e ∧ gB σ3 5 e = gB σ 5 e) := by
  refine ⟨FC.t (FC.t (c9.1.m (by decide)) (c5.1.m (by decide))) (c7.1.m (by decide)), fun e he => ⟨?_, ?_⟩, fun e he => ?_, fun e he => ⟨?_, ?_⟩⟩
  · rw [← (c9.2.1 e he).1]; funext k; rw [c7.1.fI 9 e k (by decide), c5.1.fI 9 e k (by decide)]
  · rw [← (c9.2.1 e he).2.1]; funext k; rw [c7.1.fL 9 e k (by decide), c5.1.fL 9 e k (by decide)]
  · have : gI σ2 7 e = gI σ 7 e := by funext k; rw [c5.1.fI 7 e k (by decide), c9.1.fI 7 e k (by decide)]
    have e7 := (c7.2.1 e he).1.trans this
    unfold TY
    rw [e7]
  · have : gI σ1 5 e = gI σ 5 e := by funext k; rw [c9.1.fI 5 e k (by decide)]
    rw [← this, ← (c5.2.1 e he).1]; funext k; rw [c7.1.fI 5 e k (by decide)]
  · have : gB σ1 5 e = gB σ 5 e := by funext k; rw [c9.1.fB 5 e k (by decide)]
    rw [← this, ← (c5.2.1 e he).2.2]; funext k; rw [c7.1.fB 5 e k (by decide)]
theorem st_mark (h : Rel σC σM) : Stq (F11_mark σC) (F12_mark σM) := by
  obtain ⟨r5, r6, r7, r8⟩ := h.1.2.2.2.2.1
  obtain ⟨⟨t5, -⟩, ⟨t7, -⟩⟩ := h.1.2.2.1
  have main := h.1.2.2.2.1
  obtain ⟨m, hm, em⟩ := i32_ex (x := gI σM 12 0 0 23) 3 (i32_le.mp r6) (i32_le.mp r7)
  rw [em] at r5 r8
  unfold F11_mark F12_mark
  rw [bnd_mS]
  have z : gI (mS σM) 12 0 0 23 = nI m := by rw [rI_n (by decide), rI_n (by decide)]; exact em
  rw [z, r5]
  by_cases c : m = 3
  · subst c
    rw [if_neg (show ¬ nI 3 < (3 : Int32) by decide), if_pos (show nI 3 = (3 : Int32) from rfl), ref_eq, mref_eq, bd_some, bd_some]
    exact ⟨_, _, _, rfl, rfl, h.no 7⟩
  rw [if_pos (show nI m < (3 : Int32) from nI_lt (b := 3) (by omega) (by omega)), if_neg (show ¬ nI m = (3 : Int32) from fun e => c ((nI_eq (by omega) (by omega)).mp (e.trans (show (3 : Int32) = nI 3 from rfl)))), ald_nI (by omega) (by omega), Option.bind_some, gd_at (by omega), gd_at (by omega)]
  unfold F3_keep
  obtain ⟨s1, a1, b1⟩ := c_copy9 (σ := σC) (d := 2 + m) (s := gR σC 11 0 0 5) (by omega)
  obtain ⟨s2, a2, b2⟩ := c_copy5 (σ := s1) (d := 2 + m) (s := gR σC 11 0 0 7) (by omega)
  obtain ⟨s3, a3, b3⟩ := c_copy7 (σ := s2) (d := 2 + m) (s := 0) (by omega)
  obtain ⟨f, o9, o7, o5⟩ := cp3_oth b1 b2 b3
  simp only [id]
  rw [a1, bd_some, a2, bd_some, a3, bd_some, bd_some, f.fI 11 0 0 (by decide), r5, bnd_eq, bnd_eq, nI_1, rI_s, rI_s]
  obtain ⟨t4, d1, d2, d3, d4⟩ := m_copyB (τ := sI (mS σM) 12 0 0 23 (nI (m + 1))) (a := 0) (b := m + 1) (by omega) (by omega) (by omega)
  rw [show (0 : Int32) = nI 0 from rfl, d1, bd_some, ans_eq, bd_some]
  have e23 : gI t4 12 0 0 23 = nI (m + 1) := by rw [d2.1 23 (by decide)]; exact rI_s
  rw [e23]
  refine ⟨_, _, _, rfl, rfl, RelP.st ?_ ?_ ?_ ?_⟩
  · have g : FM [0, 1, 23] [] [5, 7] σM t4 := FM.t (FM.sI (FM.sI (FM.sI FM.z (by decide)) (by decide)) (by decide)) (d2.m (by decide) (by decide) (by decide))
    have bk : ∀ o, blkM (sI (mS σM) 12 0 0 23 (nI (m + 1))) o = blkM σM o := fun o => blkM_congr (by simp (disch := decide) only [rI_c]) o
    have bw : ∀ o, blkW (sI (mS σM) 12 0 0 23 (nI (m + 1))) o = blkW σM o := fun o => blkW_congr rfl o
    refine h.1.blk (FC.sI (f.m (by decide)) (by decide)) ?_ g ?_ ?_
    · rw [← show gR s3 11 = gR σC 11 by funext b' c'; exact f.fR 11 b' c' (by decide)]; rfl
    · have q1 : gR (sI s3 11 0 0 12 (nI (m + 1))) 11 0 0 = gR σC 11 0 0 := f.fR 11 0 0 (by decide)
      rw [q1]
      have x0 := d4 0 (by omega)
      unfold BlockR at main ⊢
      rw [show blkM t4 0 = blkM σM 0 from (x0.1.trans (bk _)), show blkW t4 0 = blkW σM 0 from (x0.2.trans (bw _))]
      have y7 := o7 0 (by omega)
      have y5 := o5 (gR σC 11 0 0 7) (by omega)
      have y9 := o9 (gR σC 11 0 0 5) (by omega)
      have w7 : TY (sI s3 11 0 0 12 (nI (m + 1))) 0 = TY σC 0 := by rw [← y7]; simp (disch := decide) only [TY, rI_a]
      have w5 : gI (sI s3 11 0 0 12 (nI (m + 1))) 5 (gR σC 11 0 0 7) = gI σC 5 (gR σC 11 0 0 7) := by rw [← y5.1]; funext k; simp (disch := decide) only [rI_a]
      have w9 : gI (sI s3 11 0 0 12 (nI (m + 1))) 9 (gR σC 11 0 0 5) = gI σC 9 (gR σC 11 0 0 5) := by rw [← y9.1]; funext k; simp (disch := decide) only [rI_a]
      rw [w7, w5, w9, show gL (sI s3 11 0 0 12 (nI (m + 1))) 9 (gR σC 11 0 0 5) = gL σC 9 (gR σC 11 0 0 5) from y9.2, show gB (sI s3 11 0 0 12 (nI (m + 1))) 5 (gR σC 11 0 0 7) = gB σC 5 (gR σC 11 0 0 7) from y5.2]
      exact main
    · rw [e23]
      refine ⟨rI_s, nI_pos' (by omega), nI_le (b := 3) (by omega) (by omega), fun i hi => ?_⟩
      rw [nat, cl_nI (by omega)] at hi
      have w7 : TY (sI s3 11 0 0 12 (nI (m + 1))) (2 + i) = TY s3 (2 + i) := by simp (disch := decide) only [TY, rI_a]
      have w5 : gI (sI s3 11 0 0 12 (nI (m + 1))) 5 (2 + i) = gI s3 5 (2 + i) := by funext k; simp (disch := decide) only [rI_a]
      have w9 : gI (sI s3 11 0 0 12 (nI (m + 1))) 9 (2 + i) = gI s3 9 (2 + i) := by funext k; simp (disch := decide) only [rI_a]
      unfold BlockR
      rw [w7, w5, w9]
      show BlockV (gI s3 9 (2 + i)) (gL s3 9 (2 + i)) (TY s3 (2 + i)) (gI s3 5 (2 + i)) (gB s3 5 (2 + i)) (blkM t4 (600 * (i + 1))) (blkW t4 (14 * (i + 1)))
      by_cases e : i = m
      · subst e
        rw [d3.1, d3.2, bk, bw]
        unfold BlockR at main
        exact main.cp b1 b2 b3
      · have x1 := d4 (i + 1) (by omega)
        rw [x1.1, x1.2, bk, bw, (o9 (2 + i) (by omega)).1, (o9 (2 + i) (by omega)).2, o7 (2 + i) (by omega), (o5 (2 + i) (by omega)).1, (o5 (2 + i) (by omega)).2]
        exact r8 i (by rw [nat, cl_nI (by omega)]; omega)
  · rw [d2.1 0 (by decide), rI_n (by decide)]; exact rI_s
  · rw [gL_sI, f.fL 11 0 0 (by decide), d2.2.1 2 (by decide)]; exact h.2.2.1
  · rw [gL_sI, f.fL 11 0 0 (by decide), d2.2.1 3 (by decide)]; exact h.2.2.2
theorem st_back (h : Rel σC σM) : Stq (F11_back σC) (F12_back σM) := by
  obtain ⟨r5, r6, r7, r8⟩ := h.1.2.2.2.2.1
  obtain ⟨⟨t5, -⟩, ⟨t7, -⟩⟩ := h.1.2.2.1
  obtain ⟨m0, hm, em⟩ := i32_ex (x := gI σM 12 0 0 23) 3 (i32_le.mp r6) (i32_le.mp r7)
  rw [em] at r5 r8
  unfold F11_back F12_back
  rw [bnd_mS]
  have z : gI (mS σM) 12 0 0 23 = nI m0 := by rw [rI_n (by decide), rI_n (by decide)]; exact em
  rw [z, r5]
  by_cases c : m0 = 0
  · subst c
    rw [if_neg (show ¬ (0 : Int32) < nI 0 by decide), if_pos (show nI 0 = (0 : Int32) from rfl), ref_eq, mref_eq, bd_some, bd_some]
    exact ⟨_, _, _, rfl, rfl, h.no 8⟩
  obtain ⟨m, rfl⟩ : ∃ m, m0 = m + 1 := ⟨m0 - 1, by omega⟩
  have em1 : nI (m + 1) - 1 = nI m := by rw [show (1 : Int32) = nI 1 from rfl, pk_sub (by omega)]; rfl
  rw [if_pos (show (0 : Int32) < nI (m + 1) from nI_lt (a := 0) (by omega) (by omega)), if_neg (show ¬ nI (m + 1) = (0 : Int32) from fun e => c ((nI_eq (by omega) (by omega)).mp (e.trans (show (0 : Int32) = nI 0 from rfl)))), em1, bnd_eq, rI_s, ald_nI (by omega) (by omega), Option.bind_some, gR_sI, gd_at (by omega), gd_at (by omega)]
  unfold F3_giveBack
  obtain ⟨s1, a1, b1⟩ := c_copy9 (σ := sI σC 11 0 0 12 (nI m)) (d := gR σC 11 0 0 5) (s := 2 + m) (by omega)
  obtain ⟨s2, a2, b2⟩ := c_copy5 (σ := s1) (d := gR σC 11 0 0 7) (s := 2 + m) (by omega)
  obtain ⟨s3, a3, b3⟩ := c_copy7 (σ := s2) (d := 0) (s := 2 + m) (by omega)
  obtain ⟨f, o9, o7, o5⟩ := cp3_oth b1 b2 b3
  simp only [id]
  rw [a1, bd_some, a2, bd_some, a3, bd_some, bd_some, f.fI 11 0 0 (by decide), rI_s]
  obtain ⟨t4, d1, d2, d3, d4⟩ := m_copyB (τ := mS σM) (a := m + 1) (b := 0) (by omega) (by omega) (by omega)
  rw [show (0 : Int32) = nI 0 from rfl, d1, bd_some, ans_eq, bd_some, d2.1 23 (by decide), z, em1, bnd_eq, rI_s]
  have w7 : ∀ i, TY (sI σC 11 0 0 12 (nI m)) i = TY σC i := fun i => by simp (disch := decide) only [TY, rI_a]
  have w5 : ∀ i, gI (sI σC 11 0 0 12 (nI m)) 5 i = gI σC 5 i := fun i => by funext k; simp (disch := decide) only [rI_a]
  have w9 : ∀ i, gI (sI σC 11 0 0 12 (nI m)) 9 i = gI σC 9 i := fun i => by funext k; simp (disch := decide) only [rI_a]
  have bk : ∀ o, blkM (mS σM) o = blkM σM o := fun o => blkM_congr (by simp (disch := decide) only [rI_c]) o
  have bw : ∀ o, blkW (mS σM) o = blkW σM o := fun o => blkW_congr rfl o
  have yk : ∀ o, blkM (sI t4 12 0 0 23 (nI m)) o = blkM t4 o := fun o => blkM_congr (by simp (disch := decide) only [rI_c]) o
  have yw : ∀ o, blkW (sI t4 12 0 0 23 (nI m)) o = blkW t4 o := fun o => blkW_congr rfl o
  refine ⟨_, _, _, rfl, rfl, RelP.st ?_ ?_ ?_ ?_⟩
  · have g : FM [0, 1, 23] [] [5, 7] σM (sI t4 12 0 0 23 (nI m)) := FM.sI (FM.t (FM.sI (FM.sI FM.z (by decide)) (by decide)) (d2.m (by decide) (by decide) (by decide))) (by decide)
    have hR : gR s3 11 = gR σC 11 := by funext b' c'; exact f.fR 11 b' c' (by decide)
    refine h.1.blk (FC.t (FC.I (by decide)) (f.m (by decide))) hR g ?_ ?_
    · rw [hR]
      unfold BlockR
      rw [yk, yw, show blkM t4 0 = blkM σM (600 * (m + 1)) from d3.1.trans (bk _), show blkW t4 0 = blkW σM (14 * (m + 1)) from d3.2.trans (bw _)]
      have mm := r8 m (by rw [nat, cl_nI (by omega)]; omega)
      unfold BlockR at mm
      rw [← w9, ← w7, ← w5] at mm
      exact BlockV.cp (σ := sI σC 11 0 0 12 (nI m)) mm b1 b2 b3
    · rw [rI_s]
      refine ⟨by rw [f.fI 11 0 0 (by decide)]; exact rI_s, nI_pos' (by omega), nI_le (b := 3) (by omega) (by omega), fun i hi => ?_⟩
      rw [nat, cl_nI (by omega)] at hi
      have x1 := d4 (i + 1) (by omega)
      unfold BlockR
      rw [yk, yw, x1.1, x1.2, bk, bw, (o9 (2 + i) (by omega)).1, (o9 (2 + i) (by omega)).2, o7 (2 + i) (by omega), (o5 (2 + i) (by omega)).1, (o5 (2 + i) (by omega)).2, w9, w7, w5]
      exact r8 i (by rw [nat, cl_nI (by omega)]; omega)
  · rw [rI_n (by decide), d2.1 0 (by decide)]; exact rI_s
  · rw [f.fL 11 0 0 (by decide), gL_sI, gL_sI, d2.2.1 2 (by decide)]; exact h.2.2.1
  · rw [f.fL 11 0 0 (by decide), gL_sI, gL_sI, d2.2.1 3 (by decide)]; exact h.2.2.2
end MAR
