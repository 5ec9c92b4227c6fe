/-! PURE. hole, lean, whose, worst, sieve, same, shooter. -/
section TOLD
variable {σC σM σ σm : Mem} {s p : Int32}
theorem Rel.ta (h : Rel σC σM) : TallyR (TY σC 0) (gI σM 12 0 5) := h.tally
theorem Rel.ho (h : Rel σC σM) : HolesOk (gI σM 12 0 5) := h.ta.ok
theorem st_hole (h : Rel σC σM) (x y : Int32) : Stq (F11_hole σC x y) (F12_hole σM x y) := by
  have ta := h.ta
  obtain ⟨h8, e8⟩ := h.ho.n8
  have e1 : gI σC 7 0 0 1 = gI σM 12 0 5 8 := ta.1.2
  unfold F11_hole F12_hole
  rw [bnd_mS]
  simp only [mS_c, ix_9, ix_15, ix_21, ix_29, ix_37, ix_45, ix_53, ix_59, ix_65, ix_71, ix_77, ix_83, ix_325, al_0, al_1, al_2, al_3, al_4, al_5, al_6, al_7, al_8, ald_nI, Option.bind_some, bnd_eq, bd_some, wi_0, wi_1, isPuffing_w, isSpit_w, isAim_w, isPlace_w, wi_0_8, wi_0_20, wi_0_3, wi_m60_60, wi_m1_1, wi_0_1, wi_m999_999, wi_1_20, wi_1_30, wi_0_99, wi_1_5, wi_0_2, wi_m99_99, wi_1_12, wi_m6_6, wi_0_9999, wi_0_4, wi_1_40, e1]
  by_cases g1 : ¬ F11_within y 0 3 = true
  · simp only [g1, if_false, Bool.false_and, Bool.and_false, Bool.true_and, Bool.and_true, Bool.false_eq_true, if_true, Bool.and_self, ans_eq, ref_eq, agr_eq, den_eq, mref_eq, mno_eq, bd_some, Option.bind_some, ne_2_0, ne_5_0]
    exact ⟨_, _, _, rfl, rfl, h.no 5⟩
  replace g1 := Decidable.not_not.mp g1
  by_cases g2 : ¬ F11_within x 0 (gI σM 12 0 5 8 - 1) = true
  · simp only [g1, g2, if_false, Bool.false_and, Bool.and_false, Bool.true_and, Bool.and_true, Bool.false_eq_true, if_true, Bool.and_self, ans_eq, ref_eq, agr_eq, den_eq, mref_eq, mno_eq, bd_some, Option.bind_some, ne_2_0, ne_5_0]
    exact ⟨_, _, _, rfl, rfl, h.no 8⟩
  replace g2 := Decidable.not_not.mp g2
  obtain ⟨k, hk, rfl⟩ := in_rng (by rw [e8, nI_int (by omega)]; omega) g2
  obtain ⟨a1, a2, a3, a4⟩ := ta.at hk
  have w := wn_int g1
  have e3 : (3 : Int32).toInt = 3 := rfl
  have e0 : (0 : Int32).toInt = 0 := rfl
  obtain ⟨j, hj, rfl⟩ := i32_ex (x := y) 3 (by omega) (by omega)
  simp only [g1, g2, if_true]
  rcases (show j = 0 ∨ j = 1 ∨ j = 2 ∨ j = 3 by omega) with rfl | rfl | rfl | rfl
  · have : F12_holeAt (nI k) + nI 0 = nI (83 + 4 * k) := by rw [ha0, nI_add]; rfl
    rw [if_pos nI_z, this]
    simp (disch := omega) only [ald_nI, Option.bind_some, ans_eq, bd_some, a1]
    exact ⟨_, _, _, rfl, rfl, h.ok⟩
  · have : F12_holeAt (nI k) + nI 1 = nI (84 + 4 * k) := ha1 k
    rw [if_neg (by decide), if_pos (by decide), this]
    simp (disch := omega) only [ald_nI, Option.bind_some, ans_eq, bd_some, a2]
    exact ⟨_, _, _, rfl, rfl, h.ok⟩
  · have : F12_holeAt (nI k) + nI 2 = nI (85 + 4 * k) := ha2 k
    rw [if_neg (by decide), if_neg (by decide), if_pos (by decide), this]
    simp (disch := omega) only [ald_nI, Option.bind_some, ans_eq, bd_some, a3]
    exact ⟨_, _, _, rfl, rfl, h.ok⟩
  · have : F12_holeAt (nI k) + nI 3 = nI (86 + 4 * k) := ha3 k
    rw [if_neg (by decide), if_neg (by decide), if_neg (by decide), this]
    simp (disch := omega) only [ald_nI, Option.bind_some, ans_eq, bd_some, a4]
    exact ⟨_, _, _, rfl, rfl, h.ok⟩
theorem st_shooter (h : Rel σC σM) (x y : Int32) : Stq (F11_shooter σC x y) (F12_shooter σM x y) := by
  have o := h.ok5
  have ht := h.tt
  have h6 := ok_n6 o
  have ta := h.ta
  unfold F11_shooter F12_shooter
  rw [bnd_mS, c_isShooter h, m_isShooter, mS_c]
  simp only [Option.bind_some]
  by_cases hp : ¬ F11_within x 0 (gI σM 12 0 5 6 - 1) = true
  · simp only [hp, if_false, Bool.false_and, Bool.and_false, Bool.true_and, Bool.and_true, Bool.false_eq_true, if_true, Bool.and_self, ans_eq, ref_eq, agr_eq, den_eq, mref_eq, mno_eq, bd_some, Option.bind_some, ne_2_0, ne_5_0]
    exact ⟨_, _, _, rfl, rfl, h.no 2⟩
  replace hp := Decidable.not_not.mp hp
  obtain ⟨k, hk, rfl⟩ := in_rng (n6_int o) hp
  obtain ⟨q1, q2, q3, q4⟩ := ht.2.2.2 k hk
  have q5 : gI σC 7 0 5 k = gI σM 12 0 5 (77 + k) := ta.2.2.1 k (by omega)
  simp only [hp, if_true]
  by_cases e0 : y = 0
  · subst e0
    simp (disch := omega) only [if_true, gd_at h.t5, ix_9, ix_15, ix_21, ix_29, ix_37, ix_45, ix_53, ix_59, ix_65, ix_71, ix_77, ix_83, ix_325, al_0, al_1, al_2, al_3, al_4, al_5, al_6, al_7, al_8, ald_nI, Option.bind_some, bnd_eq, bd_some, ans_eq, mS_c, q1]
    exact ⟨_, _, _, rfl, rfl, h.ok⟩
  by_cases e1 : y = 1
  · subst e1
    have n0 : ¬ (1 : Int32) = 0 := by decide
    simp (disch := omega) only [n0, if_true, if_false, gd_at h.t5, ix_9, ix_15, ix_21, ix_29, ix_37, ix_45, ix_53, ix_59, ix_65, ix_71, ix_77, ix_83, ix_325, al_0, al_1, al_2, al_3, al_4, al_5, al_6, al_7, al_8, ald_nI, Option.bind_some, bnd_eq, bd_some, ans_eq, mS_c, q2]
    exact ⟨_, _, _, rfl, rfl, h.ok⟩
  by_cases e2 : y = 2
  · subst e2
    have n0 : ¬ (2 : Int32) = 0 := by decide
    have n1 : ¬ (2 : Int32) = 1 := by decide
    simp (disch := omega) only [n0, n1, if_true, if_false, gd_at h.t5, ix_9, ix_15, ix_21, ix_29, ix_37, ix_45, ix_53, ix_59, ix_65, ix_71, ix_77, ix_83, ix_325, al_0, al_1, al_2, al_3, al_4, al_5, al_6, al_7, al_8, ald_nI, Option.bind_some, bnd_eq, bd_some, ans_eq, mS_c, q3]
    exact ⟨_, _, _, rfl, rfl, h.ok⟩
  by_cases e3 : y = 3
  · subst e3
    have n0 : ¬ (3 : Int32) = 0 := by decide
    have n1 : ¬ (3 : Int32) = 1 := by decide
    have n2 : ¬ (3 : Int32) = 2 := by decide
    simp (disch := omega) only [n0, n1, n2, if_true, if_false, gd_at h.t5, ix_9, ix_15, ix_21, ix_29, ix_37, ix_45, ix_53, ix_59, ix_65, ix_71, ix_77, ix_83, ix_325, al_0, al_1, al_2, al_3, al_4, al_5, al_6, al_7, al_8, ald_nI, Option.bind_some, bnd_eq, bd_some, ans_eq, mS_c, q4]
    exact ⟨_, _, _, rfl, rfl, h.ok⟩
  by_cases e4 : y = 4
  · subst e4
    have n0 : ¬ (4 : Int32) = 0 := by decide
    have n1 : ¬ (4 : Int32) = 1 := by decide
    have n2 : ¬ (4 : Int32) = 2 := by decide
    have n3 : ¬ (4 : Int32) = 3 := by decide
    simp (disch := omega) only [n0, n1, n2, n3, if_true, if_false, ix_9, ix_15, ix_21, ix_29, ix_37, ix_45, ix_53, ix_59, ix_65, ix_71, ix_77, ix_83, ix_325, al_0, al_1, al_2, al_3, al_4, al_5, al_6, al_7, al_8, ald_nI, Option.bind_some, bnd_eq, bd_some, ans_eq, mS_c, q5]
    exact ⟨_, _, _, rfl, rfl, h.ok⟩
  by_cases e5 : y = 5
  · subst e5
    have n0 : ¬ (5 : Int32) = 0 := by decide
    have n1 : ¬ (5 : Int32) = 1 := by decide
    have n2 : ¬ (5 : Int32) = 2 := by decide
    have n3 : ¬ (5 : Int32) = 3 := by decide
    have n4 : ¬ (5 : Int32) = 4 := by decide
    obtain ⟨σ1, k1, k2, k3⟩ := c_gather (s := nI k) (p := -1) ta
    have hm := m_holesOf (σ := mS σM) (s := nI k) (p := -1) (by rw [mS_c]; exact h.ho) (Tol.n k (by omega)) (.inl rfl)
    rw [mS_c] at hm
    simp only [n0, n1, n2, n3, n4, if_true, if_false, k1, k3.1, hm, bd_some, Option.bind_some, ans_eq]
    exact ⟨_, _, _, rfl, rfl, h.ans k2.pcs FM.z⟩
  simp only [e0, e1, e2, e3, e4, e5, if_false, Bool.false_and, Bool.and_false, Bool.true_and, Bool.and_true, Bool.false_eq_true, if_true, Bool.and_self, ans_eq, ref_eq, agr_eq, den_eq, mref_eq, mno_eq, bd_some, Option.bind_some, ne_2_0, ne_5_0]
  exact ⟨_, _, _, rfl, rfl, h.no 5⟩
/-- the same fraction is told on both sides -/
theorem tell_same {T B : Int64} (hT : -9223372036854775808 < T.toInt) (hB : 0 < B.toInt) : F11_tell σ T B = some ((), sL (sL σ 11 0 0 1 (frT T.toInt B.toInt)) 11 0 0 2 (frB T.toInt B.toInt)) ∧ F12_fraction σm T B = some (true, sL (sL σm 12 0 0 2 (frT T.toInt B.toInt)) 12 0 0 3 (frB T.toInt B.toInt)) :=
  ⟨tell_eq hT hB, frac_eq hT hB⟩
/-- the spread of N holes -/
def hS (c : Nat → Int32) (s p : Int32) (n : Nat) : Int64 := lN (hC c s p n) * hQ c s p n - hX c s p n * hX c s p n - hY c s p n * hY c s p n
theorem sqI {x : Int} {M : Int} (h : -M ≤ x) (h2 : x ≤ M) : 0 ≤ x * x ∧ x * x ≤ M * M := by
  constructor
  · rcases Int.le_total 0 x with e | e
    · exact Int.mul_nonneg e e
    · exact Int.mul_nonneg_of_nonpos_of_nonpos e e
  · rcases Int.le_total 0 x with e | e
    · exact Int.mul_le_mul h2 h2 e (by omega)
    · have := Int.mul_le_mul (a := -x) (b := -x) (c := M) (d := M) (by omega) (by omega) (by omega) (by omega)
      rw [Int.neg_mul_neg] at this; exact this
theorem h_int {c : Nat → Int32} (ok : HolesOk c) (s p : Int32) : hC c s p (nat (c 8)) ≤ 60 ∧ (-5940 ≤ (hX c s p (nat (c 8))).toInt ∧ (hX c s p (nat (c 8))).toInt ≤ 5940) ∧ (-5940 ≤ (hY c s p (nat (c 8))).toInt ∧ (hY c s p (nat (c 8))).toInt ≤ 5940) ∧ (0 ≤ (hQ c s p (nat (c 8))).toInt ∧ (hQ c s p (nat (c 8))).toInt ≤ 1176120) := by
  have h8 := ok.n8.1
  have h1 := hC_le (c := c) (s := s) (p := p) (nat (c 8))
  have h2 := hX_int (s := s) (p := p) ok (nat (c 8)) (Nat.le_refl _)
  have h3 := hY_int (s := s) (p := p) ok (nat (c 8)) (Nat.le_refl _)
  have h4 := hQ_int (s := s) (p := p) ok (nat (c 8)) (Nat.le_refl _)
  omega
theorem hS_int {c : Nat → Int32} (ok : HolesOk c) (s p : Int32) : -200000000 ≤ (hS c s p (nat (c 8))).toInt ∧ (hS c s p (nat (c 8))).toInt ≤ 200000000 := by
  obtain ⟨h1, h2, h3, h4⟩ := h_int ok s p
  have a1 := lN_int (n := hC c s p (nat (c 8))) (by omega)
  obtain ⟨b1, b2⟩ := sqI h2.1 h2.2
  obtain ⟨c1, c2⟩ := sqI h3.1 h3.2
  have d1 : 0 ≤ (hC c s p (nat (c 8)) : Int) * (hQ c s p (nat (c 8))).toInt := Int.mul_nonneg (by omega) h4.1
  have d2 : (hC c s p (nat (c 8)) : Int) * (hQ c s p (nat (c 8))).toInt ≤ 60 * 1176120 := Int.mul_le_mul (by omega) h4.2 h4.1 (by omega)
  have e1 : (lN (hC c s p (nat (c 8))) * hQ c s p (nat (c 8))).toInt = (hC c s p (nat (c 8)) : Int) * (hQ c s p (nat (c 8))).toInt := by rw [← a1]; exact i64_mul (by rw [a1]; omega) (by rw [a1]; omega)
  have e2 : (hX c s p (nat (c 8)) * hX c s p (nat (c 8))).toInt = (hX c s p (nat (c 8))).toInt * (hX c s p (nat (c 8))).toInt := i64_mul (by omega) (by omega)
  have e3 : (hY c s p (nat (c 8)) * hY c s p (nat (c 8))).toInt = (hY c s p (nat (c 8))).toInt * (hY c s p (nat (c 8))).toInt := i64_mul (by omega) (by omega)
  have e4 : (lN (hC c s p (nat (c 8))) * hQ c s p (nat (c 8)) - hX c s p (nat (c 8)) * hX c s p (nat (c 8))).toInt = (hC c s p (nat (c 8)) : Int) * (hQ c s p (nat (c 8))).toInt - (hX c s p (nat (c 8))).toInt * (hX c s p (nat (c 8))).toInt := by rw [i64_sub] <;> rw [e1, e2] <;> omega
  unfold hS
  rw [i64_sub] <;> rw [e4, e3] <;> omega
theorem c_spread {c : Nat → Int32} {n : Nat} (g : Gat σ c s p n) (hn : hC c s p n ≤ 60) : F7_spreadTop σ 0 = hS c s p n ∧ F7_spreadBottom σ 0 = lN (hC c s p n * hC c s p n) ∧ Int32.toInt64 (gI σ 7 0 0 7) = lN (hC c s p n) := by
  obtain ⟨g1, g2, g3, g4⟩ := g
  have e : Int32.toInt64 (gI σ 7 0 0 7) = lN (hC c s p n) := by rw [g1, nI_l (by omega)]
  unfold F7_spreadTop F7_spreadBottom
  rw [e, g2, g3, g4, lN_mul]
  exact ⟨rfl, rfl, rfl⟩
theorem m_spread {c : Nat → Int32} {n : Nat} (g : Sum σ c s p n) : F12_spread σ = hS c s p n := by
  obtain ⟨g1, g2, g3, g4⟩ := g
  unfold F12_spread hS
  rw [g1, g2, g3, g4]
theorem FM.hs {σ' : Mem} (g : FM [] [42, 43, 44, 45] [] σ σ') : FMS σ σ' := g.m (by decide) (by decide) (by decide)
theorem lean_42 (h : Rel σC σM) (hs : Tol s) (hp : Tol p) (x : Int32) : Stq (F11_lean_p32 σC s p x) (F12_lean_p42 (mS σM) s p x) := by
  have ok := h.ho
  unfold F11_lean_p32 F12_lean_p42
  simp only [wi_0, wi_1, isPuffing_w, isSpit_w, isAim_w, isPlace_w, wi_0_8, wi_0_20, wi_0_3, wi_m60_60, wi_m1_1, wi_0_1, wi_m999_999, wi_1_20, wi_1_30, wi_0_99, wi_1_5, wi_0_2, wi_m99_99, wi_1_12, wi_m6_6, wi_0_9999, wi_0_4, wi_1_40]
  by_cases g1 : ¬ F11_within x 0 2 = true
  · simp only [g1, if_false, Bool.false_and, Bool.and_false, Bool.true_and, Bool.and_true, Bool.false_eq_true, if_true, Bool.and_self, ans_eq, ref_eq, agr_eq, den_eq, mref_eq, mno_eq, bd_some, Option.bind_some, ne_2_0, ne_5_0]
    exact ⟨_, _, _, rfl, rfl, h.no 5⟩
  replace g1 := Decidable.not_not.mp g1
  obtain ⟨σ1, k1, k2, k3⟩ := c_gather (s := s) (p := p) h.ta
  obtain ⟨σ2, m1, m2, m3⟩ := m_sumHoles (σ := mS σM) (s := s) (p := p) (by rw [mS_c]; exact ok) hs hp
  rw [mS_c] at m3
  obtain ⟨b1, b2, b3, b4⟩ := h_int ok s p
  have b5 := hS_int ok s p
  obtain ⟨d1, d2, d3⟩ := c_spread k3 b1
  have d4 := m_spread m3
  have kn : gI σ1 7 0 0 7 = nI (hC (gI σM 12 0 5) s p (nat (gI σM 12 0 5 8))) := k3.1
  simp only [g1, if_true, k1, m1, bd_some, d1, d2, d3, d4, m3.1, m3.2.1, m3.2.2.1, k3.2.1, k3.2.2.1, kn, lN_mul]
  generalize hC (gI σM 12 0 5) s p (nat (gI σM 12 0 5 8)) = N at *
  generalize hX (gI σM 12 0 5) s p (nat (gI σM 12 0 5 8)) = X at *
  generalize hY (gI σM 12 0 5) s p (nat (gI σM 12 0 5 8)) = Y at *
  generalize hS (gI σM 12 0 5) s p (nat (gI σM 12 0 5 8)) = Z at *
  by_cases hN : N = 0
  · subst hN
    rw [if_pos nI_z, if_pos (show lN 0 = 0 from rfl), den_eq, mno_eq, bd_some, bd_some]
    exact ⟨_, _, _, rfl, rfl, h.ref k2.pcs m2.hs 8⟩
  · have hNi := lN_int (n := N) (by omega)
    have hNN : N * N ≤ 60 * 60 := Nat.mul_le_mul b1 b1
    have hN1 : 1 * 1 ≤ N * N := Nat.mul_le_mul (by omega) (by omega)
    have hNNi := lN_int (n := N * N) (by omega)
    have hnl : (nI N).toInt64 = lN N := nI_l (by omega)
    rw [if_neg (nI_ne0 (by omega) (by omega)), if_neg (lN_ne0 (by omega) (by omega)), hnl]
    by_cases x2 : x = 2
    · subst x2
      rw [if_neg (by decide), if_neg (by decide), if_pos rfl]
      obtain ⟨t1, t2⟩ := tell_same (σ := σ1) (σm := σ2) (T := Z) (B := lN (N * N)) (by omega) (by omega)
      simp only [t1, t2, bd_some, agr_eq]
      exact ⟨_, _, _, rfl, rfl, h.tel k2.pcs m2.hs _ _⟩
    rw [if_neg x2]
    by_cases x0 : x = 0
    · rw [if_pos x0, if_pos x0]
      obtain ⟨t1, t2⟩ := tell_same (σ := σ1) (σm := σ2) (T := X) (B := lN N) (by omega) (by omega)
      simp only [t1, t2, bd_some, agr_eq]
      exact ⟨_, _, _, rfl, rfl, h.tel k2.pcs m2.hs _ _⟩
    have x1 : x = 1 := by
      have w := wn_int g1
      have e2 : (2 : Int32).toInt = 2 := rfl
      have e1 : (1 : Int32).toInt = 1 := rfl
      have e0 : (0 : Int32).toInt = 0 := rfl
      rw [i32_eq] at x0 x2 ⊢; omega
    rw [if_neg x0, if_pos x1, if_neg x0]
    obtain ⟨t1, t2⟩ := tell_same (σ := σ1) (σm := σ2) (T := Y) (B := lN N) (by omega) (by omega)
    simp only [t1, t2, bd_some, agr_eq]
    exact ⟨_, _, _, rfl, rfl, h.tel k2.pcs m2.hs _ _⟩
theorem Tol.w {x n : Int32} (h : F11_within x 0 n = true) : Tol x := .inr (by have := (within_iff.mp h).1; exact Int32.not_lt.mpr this)
theorem st_lean (h : Rel σC σM) (x y z : Int32) : Stq (F11_lean σC x y z) (F12_lean σM x y z) := by
  have second : ∀ hx : Tol x, Stq (F11_lean_p13 σC x y z) (F12_lean_p23 (mS σM) x y z) := by
    intro hx
    unfold F11_lean_p13 F12_lean_p23
    rw [c_isPea h, m_isPea, mS_c]
    simp only [Option.bind_some]
    by_cases hy : y = -1
    · rw [if_pos hy, if_pos hy]; exact lean_42 h hx (.inl hy) z
    rw [if_neg hy, if_neg hy]
    by_cases hp : ¬ F11_within y 0 (gI σM 12 0 5 5 - 1) = true
    · simp only [hp, if_false, Bool.false_and, Bool.and_false, Bool.true_and, Bool.and_true, Bool.false_eq_true, if_true, Bool.and_self, ans_eq, ref_eq, agr_eq, den_eq, mref_eq, mno_eq, bd_some, Option.bind_some, ne_2_0, ne_5_0]
      exact ⟨_, _, _, rfl, rfl, h.no 2⟩
    replace hp := Decidable.not_not.mp hp
    rw [if_pos hp, if_pos hp]
    exact lean_42 h hx (.w hp) z
  unfold F11_lean F12_lean
  rw [bnd_mS, c_isShooter h, m_isShooter, mS_c]
  simp only [Option.bind_some]
  by_cases hx : x = -1
  · rw [if_pos hx, if_pos hx]; exact second (.inl hx)
  rw [if_neg hx, if_neg hx]
  by_cases hp : ¬ F11_within x 0 (gI σM 12 0 5 6 - 1) = true
  · simp only [hp, if_false, Bool.false_and, Bool.and_false, Bool.true_and, Bool.and_true, Bool.false_eq_true, if_true, Bool.and_self, ans_eq, ref_eq, agr_eq, den_eq, mref_eq, mno_eq, bd_some, Option.bind_some, ne_2_0, ne_5_0]
    exact ⟨_, _, _, rfl, rfl, h.no 2⟩
  replace hp := Decidable.not_not.mp hp
  rw [if_pos hp, if_pos hp]
  exact second (.w hp)
end TOLD
