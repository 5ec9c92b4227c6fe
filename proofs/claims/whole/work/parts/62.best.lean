/-! PURE. strikes, odds, mean; the best of some means. -/
theorem loop2 {S1 S2 R1 R2 : Type} {L1 : Nat → S1 → Option R1} {L2 : Nat → S2 → Option R2} {N : Nat} {Inv : Nat → S1 → S2 → Prop} {Post : R1 → R2 → Prop}
    (h : ∀ n m i s t, i ≤ N → Inv i s t → (∃ r q, L1 (n + 1) s = some r ∧ L2 (m + 1) t = some q ∧ Post r q) ∨ (i < N ∧ ∃ s' t', L1 (n + 1) s = L1 n s' ∧ L2 (m + 1) t = L2 m t' ∧ Inv (i + 1) s' t')) :
    ∀ k n m i s t, i + k = N → k < n → k < m → Inv i s t → ∃ r q, L1 n s = some r ∧ L2 m t = some q ∧ Post r q := by
  intro k
  induction k with
  | zero =>
    intro n m i s t hi hn hm hI
    obtain ⟨n', rfl⟩ : ∃ n', n = n' + 1 := ⟨n - 1, by omega⟩
    obtain ⟨m', rfl⟩ : ∃ m', m = m' + 1 := ⟨m - 1, by omega⟩
    rcases h n' m' i s t (by omega) hI with h1 | ⟨h1, -⟩
    · exact h1
    · omega
  | succ k ih =>
    intro n m i s t hi hn hm hI
    obtain ⟨n', rfl⟩ : ∃ n', n = n' + 1 := ⟨n - 1, by omega⟩
    obtain ⟨m', rfl⟩ : ∃ m', m = m' + 1 := ⟨m - 1, by omega⟩
    rcases h n' m' i s t (by omega) hI with h1 | ⟨h1, s', t', h2, h3, h4⟩
    · exact h1
    · obtain ⟨r, q, h5, h6, h7⟩ := ih n' m' (i + 1) s' t' (by omega) (by omega) (by omega) h4
      exact ⟨r, q, h2.trans h5, h3.trans h6, h7⟩
theorem lN_int {n : Nat} (h : n < 2147483648) : (lN n).toInt = n := lN_toInt h
theorem wn_003 : F11_within 0 0 3 = true := by decide
theorem wn_203 : F11_within 2 0 3 = true := by decide
theorem wn_060 : F11_within 0 (-60) 60 = true := by decide
section BEST
variable {σC σM σ σm : Mem} {p s : Nat}
theorem st_strikes (h : Rel σC σM) (x1 x2 x3 x4 x5 x6 x7 : Int32) : Stq (F11_strikes σC x1 x2 x3 x4 x5 x6 x7) (F12_strikes σM x1 x2 x3 x4 x5 x6 x7) := by
  have o := h.ok5
  have o' : TentOk (gI (mS σM) 12 0 5) := by rw [mS_c]; exact o
  have h6 := ok_n6 o
  unfold F11_strikes F12_strikes
  rw [bnd_mS, m_isPea, m_isShooter, mS_c]
  simp only [Option.bind_some, wi_0, wi_1, isPuffing_w, isSpit_w, isAim_w, isPlace_w, wi_0_8, wi_0_20, wi_0_3, wi_m60_60, wi_m1_1, wi_0_1, wi_m999_999, wi_1_20, wi_1_30, wi_0_99, wi_1_5, wi_0_2, wi_m99_99, wi_1_12, wi_m6_6, wi_0_9999, wi_0_4, wi_1_40]
  by_cases hs : ¬ F11_within x1 0 (gI σM 12 0 5 6 - 1) = true
  · rw [ws_s h _ _ _ _ _ hs]
    by_cases hp : F11_within x2 0 (gI σM 12 0 5 5 - 1) = true
    · simp only [hs, hp, if_false, Bool.false_and, Bool.and_false, Bool.true_and, Bool.and_true, Bool.false_eq_true, if_true, Bool.and_self, ans_eq, ref_eq, agr_eq, den_eq, mref_eq, mno_eq, bd_some, Option.bind_some, ne_2_0, ne_5_0]
      exact ⟨_, _, _, rfl, rfl, h.no 2⟩
    · simp only [hp, if_false, Bool.false_and, Bool.and_false, Bool.true_and, Bool.and_true, Bool.false_eq_true, if_true, Bool.and_self, ans_eq, ref_eq, agr_eq, den_eq, mref_eq, mno_eq, bd_some, Option.bind_some, ne_2_0, ne_5_0]
      exact ⟨_, _, _, rfl, rfl, h.no 2⟩
  replace hs := Decidable.not_not.mp hs
  by_cases hp : ¬ F11_within x2 0 (gI σM 12 0 5 5 - 1) = true
  · rw [ws_p h _ _ _ _ hs hp]
    simp only [hp, if_false, Bool.false_and, Bool.and_false, Bool.true_and, Bool.and_true, Bool.false_eq_true, if_true, Bool.and_self, ans_eq, ref_eq, agr_eq, den_eq, mref_eq, mno_eq, bd_some, Option.bind_some, ne_2_0, ne_5_0]
    exact ⟨_, _, _, rfl, rfl, h.no 2⟩
  replace hp := Decidable.not_not.mp hp
  obtain ⟨k, hk, rfl⟩ := in_rng (n5_int o) hp
  obtain ⟨s, hk6, rfl⟩ := in_rng (n6_int o) hs
  rw [ws_in h x3 0 x4 x5 hk6 hs hp]
  simp (disch := omega) only [hs, hp, if_true, mS_c, ix_9, ix_15, ix_21, ix_29, ix_37, ix_45, ix_53, ix_59, ix_65, ix_71, ix_77, ix_83, ix_325, al_0, al_1, al_2, al_3, al_4, al_5, al_6, al_7, al_8, ald_nI, Option.bind_some, bnd_eq, bd_some, wn_003]
  by_cases g1 : ¬ F11_within x3 1 (gI σM 12 0 5 (53 + s)) = true
  · simp only [g1, if_false, Bool.false_and, Bool.and_false, Bool.true_and, Bool.and_true, Bool.false_eq_true, if_true, Bool.and_self, ans_eq, ref_eq, agr_eq, den_eq, mref_eq, mno_eq, bd_some, Option.bind_some, ne_2_0, ne_5_0]
    exact ⟨_, _, _, rfl, rfl, h.no 5⟩
  replace g1 := Decidable.not_not.mp g1
  by_cases g2 : ¬ F11_within x4 (-60) 60 = true
  · simp only [g1, g2, if_false, Bool.false_and, Bool.and_false, Bool.true_and, Bool.and_true, Bool.false_eq_true, if_true, Bool.and_self, ans_eq, ref_eq, agr_eq, den_eq, mref_eq, mno_eq, bd_some, Option.bind_some, ne_2_0, ne_5_0]
    exact ⟨_, _, _, rfl, rfl, h.no 5⟩
  replace g2 := Decidable.not_not.mp g2
  by_cases g3 : ¬ F11_within x5 (-60) 60 = true
  · simp only [g1, g2, g3, if_false, Bool.false_and, Bool.and_false, Bool.true_and, Bool.and_true, Bool.false_eq_true, if_true, Bool.and_self, ans_eq, ref_eq, agr_eq, den_eq, mref_eq, mno_eq, bd_some, Option.bind_some, ne_2_0, ne_5_0]
    exact ⟨_, _, _, rfl, rfl, h.no 5⟩
  replace g3 := Decidable.not_not.mp g3
  by_cases g4 : ¬ F11_within x6 (-1) 1 = true
  · simp only [g1, g2, g3, g4, if_false, Bool.false_and, Bool.and_false, Bool.true_and, Bool.and_true, Bool.false_eq_true, if_true, Bool.and_self, ans_eq, ref_eq, agr_eq, den_eq, mref_eq, mno_eq, bd_some, Option.bind_some, ne_2_0, ne_5_0]
    exact ⟨_, _, _, rfl, rfl, h.no 5⟩
  replace g4 := Decidable.not_not.mp g4
  by_cases g5 : ¬ F11_within x7 0 1 = true
  · simp only [g1, g2, g3, g4, g5, if_false, Bool.false_and, Bool.and_false, Bool.true_and, Bool.and_true, Bool.false_eq_true, if_true, Bool.and_self, ans_eq, ref_eq, agr_eq, den_eq, mref_eq, mno_eq, bd_some, Option.bind_some, ne_2_0, ne_5_0]
    exact ⟨_, _, _, rfl, rfl, h.no 5⟩
  replace g5 := Decidable.not_not.mp g5
  obtain ⟨σ1, k1, k2, k3⟩ := c_takeZ h FC.z s k x3 0 x4 x5
  have ht1 := h.tt.fc k2 (by decide)
  have hsp := h.sp.2
  have e5 : gR σ1 11 0 0 5 = gR σC 11 0 0 5 := h.fct k2 (by decide)
  obtain ⟨σ2, r1, r2, r3, r4, r5⟩ := c_reckon (σ := σ1) (t0 := 0) ht1 o hk hsp ⟨k3.2.1, k3.2.2.1, k3.2.2.2.2.2.2.1, k3.2.2.2.2.2.2.2⟩
  have k4 := k3.fc r3
  have ht2 := ht1.fc r2 (by decide)
  have e6 : gR σ2 11 0 0 5 = gR σC 11 0 0 5 := h.fct (k2.t r2) (by decide)
  obtain ⟨σ3, m1, m2, m3⟩ := m_flies (σ := mS σM) (puff := x3) o' (by rw [mS_c]; exact hk) hsp
  rw [mS_c] at m1 m3
  have g : FMS (mS σM) σ3 := m2.m (by decide) (by decide) (by decide)
  have c3 : gI σ3 12 0 5 = gI σM 12 0 5 := (m2.c (by decide)).trans mS_c
  have F := (k2.t r2).w6.pcs
  simp only [g1, g2, g3, g4, g5, k1, e5, e6, gd_at h.t5, r1, r4, m1, if_false, Bool.false_and, Bool.and_false, Bool.true_and, Bool.and_true, Bool.false_eq_true, if_true, Bool.and_self, ans_eq, ref_eq, agr_eq, den_eq, mref_eq, mno_eq, bd_some, Option.bind_some, ne_2_0, ne_5_0, c_strikeX ht2 o hk6 k4.1, c_strikeY ht2 o hk6 k4.1, k4.2.2.2.2.1, k4.2.2.2.2.2.1]
  by_cases hf : sFate (gI σM 12 0 5) k x3 (gI σM 12 0 5 7) = 0
  · obtain ⟨-, q1, q2, q3, q4⟩ := r5 hf
    obtain ⟨w1, w2, w3, w4⟩ := m3 hf
    have d0 : gI σ2 6 0 0 10 = gI σ3 12 0 0 28 := by rw [q1, w1]
    have d1 : gI σ2 6 0 0 11 = gI σ3 12 0 0 29 := by rw [q2, w2, d0]
    have d2 : gI σ2 6 0 0 12 = gI σ3 12 0 0 30 := by rw [q3, w3, d0]
    have d3 : gI σ2 6 0 0 13 = gI σ3 12 0 0 31 := by rw [q4, w4, d0]
    simp (disch := omega) only [hf, decide_true, if_false, Bool.false_and, Bool.and_false, Bool.true_and, Bool.and_true, Bool.false_eq_true, if_true, Bool.and_self, ans_eq, ref_eq, agr_eq, den_eq, mref_eq, mno_eq, bd_some, Option.bind_some, ne_2_0, ne_5_0, d1, d2, d3, F12_strikeX, F12_strikeY, c3, ix_9, ix_15, ix_21, ix_29, ix_37, ix_45, ix_53, ix_59, ix_65, ix_71, ix_77, ix_83, ix_325, al_0, al_1, al_2, al_3, al_4, al_5, al_6, al_7, al_8, ald_nI, Option.bind_some, bnd_eq, bd_some, Int32.add_zero]
    by_cases w0 : x7 = 0
    · simp only [w0, if_true]
      exact ⟨_, _, _, rfl, rfl, h.ans F g⟩
    · simp only [w0, if_false]
      exact ⟨_, _, _, rfl, rfl, h.ans F g⟩
  · simp only [hf, decide_false, if_false, Bool.false_and, Bool.and_false, Bool.true_and, Bool.and_true, Bool.false_eq_true, if_true, Bool.and_self, ans_eq, ref_eq, agr_eq, den_eq, mref_eq, mno_eq, bd_some, Option.bind_some, ne_2_0, ne_5_0]
    exact ⟨_, _, _, rfl, rfl, h.ref F g 9⟩
theorem sub_lit (a : Nat) : True := trivial
/-- the fraction told on both sides: T of B, on the class's side l times so -/
theorem tell_both {l T B : Nat} (h1 : 1 ≤ l) (hT : l * T < 2147483648) (hB : l * B < 2147483648) (hB1 : 1 ≤ B) :
    F11_tell σ (lN (l * T)) (lN (l * B)) = some ((), sL (sL σ 11 0 0 1 (frT T B)) 11 0 0 2 (frB T B)) := by
  have e1 := lN_int hT
  have e2 := lN_int hB
  have e3 := Nat.mul_le_mul h1 hB1
  rw [tell_eq (by rw [e1]; omega) (by rw [e2]; omega), e1, e2, Int.natCast_mul, Int.natCast_mul, frT_mul (by omega) (by omega), frB_mul (by omega) (by omega)]
theorem frac_both {T B : Nat} (hT : T < 2147483648) (hB : B < 2147483648) (hB1 : 1 ≤ B) :
    F12_fraction σ (lN T) (lN B) = some (true, sL (sL σ 12 0 0 2 (frT T B)) 12 0 0 3 (frB T B)) := by
  have e1 := lN_int hT
  have e2 := lN_int hB
  rw [frac_eq (by rw [e1]; omega) (by rw [e2]; omega), e1, e2]
theorem zok (h : Rel σC σM) (hs : s < nat (gI σM 12 0 5 6)) (hp : p < nat (gI σM 12 0 5 5)) {puff : Int32} (beat x y : Int32) (g1 : F11_within puff 1 (gI σM 12 0 5 (53 + s)) = true) : ShOk (gI σM 12 0 5, s, p, puff, beat, x, y, gI σM 12 0 5 7) :=
  ⟨h.ok5, hs, hp, h.sp.2, puff_ok h.ok5 hs g1⟩
theorem st_odds (h : Rel σC σM) (x1 x2 x3 x4 x5 x6 x7 : Int32) : Stq (F11_odds σC x1 x2 x3 x4 x5 x6 x7) (F12_odds σM x1 x2 x3 x4 x5 x6 x7) := by
  have o := h.ok5
  have h6 := ok_n6 o
  unfold F11_odds F12_odds
  rw [bnd_mS, m_isShot, mS_c]
  simp only [Option.bind_some, wi_0, wi_1, isPuffing_w, isSpit_w, isAim_w, isPlace_w, wi_0_8, wi_0_20, wi_0_3, wi_m60_60, wi_m1_1, wi_0_1, wi_m999_999, wi_1_20, wi_1_30, wi_0_99, wi_1_5, wi_0_2, wi_m99_99, wi_1_12, wi_m6_6, wi_0_9999, wi_0_4, wi_1_40]
  by_cases hs : ¬ F11_within x1 0 (gI σM 12 0 5 6 - 1) = true
  · rw [ws_s h _ _ _ _ _ hs]
    simp only [hs, if_false, Bool.false_and, Bool.and_false, Bool.true_and, Bool.and_true, Bool.false_eq_true, if_true, Bool.and_self, ans_eq, ref_eq, agr_eq, den_eq, mref_eq, mno_eq, bd_some, Option.bind_some, ne_2_0, ne_5_0]
    exact ⟨_, _, _, rfl, rfl, h.no 2⟩
  replace hs := Decidable.not_not.mp hs
  by_cases hp : ¬ F11_within x2 0 (gI σM 12 0 5 5 - 1) = true
  · rw [ws_p h _ _ _ _ hs hp]
    simp only [hp, if_false, Bool.false_and, Bool.and_false, Bool.true_and, Bool.and_true, Bool.false_eq_true, if_true, Bool.and_self, ans_eq, ref_eq, agr_eq, den_eq, mref_eq, mno_eq, bd_some, Option.bind_some, ne_2_0, ne_5_0]
    exact ⟨_, _, _, rfl, rfl, h.no 2⟩
  replace hp := Decidable.not_not.mp hp
  obtain ⟨k, hk, rfl⟩ := in_rng (n5_int o) hp
  obtain ⟨s, hk6, rfl⟩ := in_rng (n6_int o) hs
  rw [ws_in h x3 x4 x5 x6 hk6 hs hp]
  simp (disch := omega) only [hs, hp, if_true, mS_c, ix_9, ix_15, ix_21, ix_29, ix_37, ix_45, ix_53, ix_59, ix_65, ix_71, ix_77, ix_83, ix_325, al_0, al_1, al_2, al_3, al_4, al_5, al_6, al_7, al_8, ald_nI, Option.bind_some, bnd_eq, bd_some, Bool.and_self]
  by_cases g1 : ¬ F11_within x3 1 (gI σM 12 0 5 (53 + s)) = true
  · simp only [g1, if_false, Bool.false_and, Bool.and_false, Bool.true_and, Bool.and_true, Bool.false_eq_true, if_true, Bool.and_self, ans_eq, ref_eq, agr_eq, den_eq, mref_eq, mno_eq, bd_some, Option.bind_some, ne_2_0, ne_5_0]
    exact ⟨_, _, _, rfl, rfl, h.no 5⟩
  replace g1 := Decidable.not_not.mp g1
  by_cases g2 : ¬ F11_within x4 0 3 = true
  · simp only [g1, g2, if_false, Bool.false_and, Bool.and_false, Bool.true_and, Bool.and_true, Bool.false_eq_true, if_true, Bool.and_self, ans_eq, ref_eq, agr_eq, den_eq, mref_eq, mno_eq, bd_some, Option.bind_some, ne_2_0, ne_5_0]
    exact ⟨_, _, _, rfl, rfl, h.no 5⟩
  replace g2 := Decidable.not_not.mp g2
  by_cases g3 : ¬ F11_within x5 (-60) 60 = true
  · simp only [g1, g2, g3, if_false, Bool.false_and, Bool.and_false, Bool.true_and, Bool.and_true, Bool.false_eq_true, if_true, Bool.and_self, ans_eq, ref_eq, agr_eq, den_eq, mref_eq, mno_eq, bd_some, Option.bind_some, ne_2_0, ne_5_0]
    exact ⟨_, _, _, rfl, rfl, h.no 5⟩
  replace g3 := Decidable.not_not.mp g3
  by_cases g4 : ¬ F11_within x6 (-60) 60 = true
  · simp only [g1, g2, g3, g4, if_false, Bool.false_and, Bool.and_false, Bool.true_and, Bool.and_true, Bool.false_eq_true, if_true, Bool.and_self, ans_eq, ref_eq, agr_eq, den_eq, mref_eq, mno_eq, bd_some, Option.bind_some, ne_2_0, ne_5_0]
    exact ⟨_, _, _, rfl, rfl, h.no 5⟩
  replace g4 := Decidable.not_not.mp g4
  by_cases g5 : ¬ F11_within x7 1 20 = true
  · simp only [g1, g2, g3, g4, g5, if_false, Bool.false_and, Bool.and_false, Bool.true_and, Bool.and_true, Bool.false_eq_true, if_true, Bool.and_self, ans_eq, ref_eq, agr_eq, den_eq, mref_eq, mno_eq, bd_some, Option.bind_some, ne_2_0, ne_5_0]
    exact ⟨_, _, _, rfl, rfl, h.no 5⟩
  replace g5 := Decidable.not_not.mp g5
  have w7 := wn_int g5
  have e20 : (20 : Int32).toInt = 20 := rfl
  have e01 : (1 : Int32).toInt = 1 := rfl
  obtain ⟨v, hv, rfl⟩ := i32_ex (x := x7) 20 (by omega) (by omega)
  have hz := zok h hk6 hk x4 x5 x6 g1
  obtain ⟨σ1, k1, k2, k3⟩ := c_takeZ h FC.z s k x3 x4 x5 x6
  have e5 : gR σ1 11 0 0 5 = gR σC 11 0 0 5 := h.fct k2 (by decide)
  obtain ⟨σ2, l, r1, r2, r3, r4, r5, r6, r7⟩ := c_chances (q := 0) (h.tt.fc k2 (by decide)) hz ⟨aim_ok g3, aim_ok g4⟩ k3
  have F := (k2.w6.t r2.w26).pcs
  obtain ⟨σ3, m1, m2, m3, m4, m5⟩ := m_counts (σ := mS σM) (s := s) (p := k) (puff := x3) (beat := x4) (x := x5) (y := x6) (spit := gI σM 12 0 5 7) (by rw [mS_c]; exact hz)
  rw [mS_c] at m3 m4 m5
  have g : FMS (mS σM) σ3 := m2.m (by decide) (by decide) (by decide)
  have hle := r7.le hz
  have hA := oAll_le hz
  have hsr := sr_le hz v (21 - v) (by omega)
  have hlsr : l * sr v (21 - v) (oCnt (gI σM 12 0 5, s, k, x3, x4, x5, x6, gI σM 12 0 5 7)) ≤ 338 * 7098 := Nat.mul_le_mul (by have := Nat.mul_le_mul_left l hA.1; omega) hsr
  simp only [g1, g2, g3, g4, g5, k1, e5, gd_at h.t5, r1, c_atLeast r7 hz hv, m1, m_atLeast m3 hv, r7.2.2.2, m4, if_false, Bool.false_and, Bool.and_false, Bool.true_and, Bool.and_true, Bool.false_eq_true, if_true, Bool.and_self, ans_eq, ref_eq, agr_eq, den_eq, mref_eq, mno_eq, bd_some, Option.bind_some, ne_2_0, ne_5_0, nI_l (show l * oAll (gI σM 12 0 5, s, k, x3, x4, x5, x6, gI σM 12 0 5 7) < 2 ^ 31 by omega), nI_l (show oAll (gI σM 12 0 5, s, k, x3, x4, x5, x6, gI σM 12 0 5 7) < 2 ^ 31 by omega), nI_l (show sr v (21 - v) (oCnt (gI σM 12 0 5, s, k, x3, x4, x5, x6, gI σM 12 0 5 7)) < 2 ^ 31 by omega), tell_both r7.1 (show l * sr v (21 - v) (oCnt (gI σM 12 0 5, s, k, x3, x4, x5, x6, gI σM 12 0 5 7)) < 2147483648 by omega) (show l * oAll (gI σM 12 0 5, s, k, x3, x4, x5, x6, gI σM 12 0 5 7) < 2147483648 by omega) hA.1, frac_both (show sr v (21 - v) (oCnt (gI σM 12 0 5, s, k, x3, x4, x5, x6, gI σM 12 0 5 7)) < 2147483648 by omega) (show oAll (gI σM 12 0 5, s, k, x3, x4, x5, x6, gI σM 12 0 5 7) < 2147483648 by omega) hA.1]
  exact ⟨_, _, _, rfl, rfl, h.tel F g _ _⟩
theorem st_mean (h : Rel σC σM) (x1 x2 x3 x4 x5 x6 : Int32) : Stq (F11_mean σC x1 x2 x3 x4 x5 x6) (F12_mean σM x1 x2 x3 x4 x5 x6) := by
  have o := h.ok5
  have h6 := ok_n6 o
  unfold F11_mean F12_mean
  rw [bnd_mS, m_isShot, mS_c]
  simp only [Option.bind_some, wi_0, wi_1, isPuffing_w, isSpit_w, isAim_w, isPlace_w, wi_0_8, wi_0_20, wi_0_3, wi_m60_60, wi_m1_1, wi_0_1, wi_m999_999, wi_1_20, wi_1_30, wi_0_99, wi_1_5, wi_0_2, wi_m99_99, wi_1_12, wi_m6_6, wi_0_9999, wi_0_4, wi_1_40]
  by_cases hs : ¬ F11_within x1 0 (gI σM 12 0 5 6 - 1) = true
  · rw [ws_s h _ _ _ _ _ hs]
    simp only [hs, if_false, Bool.false_and, Bool.and_false, Bool.true_and, Bool.and_true, Bool.false_eq_true, if_true, Bool.and_self, ans_eq, ref_eq, agr_eq, den_eq, mref_eq, mno_eq, bd_some, Option.bind_some, ne_2_0, ne_5_0]
    exact ⟨_, _, _, rfl, rfl, h.no 2⟩
  replace hs := Decidable.not_not.mp hs
  by_cases hp : ¬ F11_within x2 0 (gI σM 12 0 5 5 - 1) = true
  · rw [ws_p h _ _ _ _ hs hp]
    simp only [hp, if_false, Bool.false_and, Bool.and_false, Bool.true_and, Bool.and_true, Bool.false_eq_true, if_true, Bool.and_self, ans_eq, ref_eq, agr_eq, den_eq, mref_eq, mno_eq, bd_some, Option.bind_some, ne_2_0, ne_5_0]
    exact ⟨_, _, _, rfl, rfl, h.no 2⟩
  replace hp := Decidable.not_not.mp hp
  obtain ⟨k, hk, rfl⟩ := in_rng (n5_int o) hp
  obtain ⟨s, hk6, rfl⟩ := in_rng (n6_int o) hs
  rw [ws_in h x3 x4 x5 x6 hk6 hs hp]
  simp (disch := omega) only [hs, hp, if_true, mS_c, ix_9, ix_15, ix_21, ix_29, ix_37, ix_45, ix_53, ix_59, ix_65, ix_71, ix_77, ix_83, ix_325, al_0, al_1, al_2, al_3, al_4, al_5, al_6, al_7, al_8, ald_nI, Option.bind_some, bnd_eq, bd_some, Bool.and_self]
  by_cases g1 : ¬ F11_within x3 1 (gI σM 12 0 5 (53 + s)) = true
  · simp only [g1, if_false, Bool.false_and, Bool.and_false, Bool.true_and, Bool.and_true, Bool.false_eq_true, if_true, Bool.and_self, ans_eq, ref_eq, agr_eq, den_eq, mref_eq, mno_eq, bd_some, Option.bind_some, ne_2_0, ne_5_0]
    exact ⟨_, _, _, rfl, rfl, h.no 5⟩
  replace g1 := Decidable.not_not.mp g1
  by_cases g2 : ¬ F11_within x4 0 3 = true
  · simp only [g1, g2, if_false, Bool.false_and, Bool.and_false, Bool.true_and, Bool.and_true, Bool.false_eq_true, if_true, Bool.and_self, ans_eq, ref_eq, agr_eq, den_eq, mref_eq, mno_eq, bd_some, Option.bind_some, ne_2_0, ne_5_0]
    exact ⟨_, _, _, rfl, rfl, h.no 5⟩
  replace g2 := Decidable.not_not.mp g2
  by_cases g3 : ¬ F11_within x5 (-60) 60 = true
  · simp only [g1, g2, g3, if_false, Bool.false_and, Bool.and_false, Bool.true_and, Bool.and_true, Bool.false_eq_true, if_true, Bool.and_self, ans_eq, ref_eq, agr_eq, den_eq, mref_eq, mno_eq, bd_some, Option.bind_some, ne_2_0, ne_5_0]
    exact ⟨_, _, _, rfl, rfl, h.no 5⟩
  replace g3 := Decidable.not_not.mp g3
  by_cases g4 : ¬ F11_within x6 (-60) 60 = true
  · simp only [g1, g2, g3, g4, if_false, Bool.false_and, Bool.and_false, Bool.true_and, Bool.and_true, Bool.false_eq_true, if_true, Bool.and_self, ans_eq, ref_eq, agr_eq, den_eq, mref_eq, mno_eq, bd_some, Option.bind_some, ne_2_0, ne_5_0]
    exact ⟨_, _, _, rfl, rfl, h.no 5⟩
  replace g4 := Decidable.not_not.mp g4
  have hz := zok h hk6 hk x4 x5 x6 g1
  obtain ⟨σ1, k1, k2, k3⟩ := c_takeZ h FC.z s k x3 x4 x5 x6
  have e5 : gR σ1 11 0 0 5 = gR σC 11 0 0 5 := h.fct k2 (by decide)
  obtain ⟨σ2, l, r1, r2, r3, r4, r5, r6, r7⟩ := c_chances (q := 0) (h.tt.fc k2 (by decide)) hz ⟨aim_ok g3, aim_ok g4⟩ k3
  have F := (k2.w6.t r2.w26).pcs
  obtain ⟨σ3, m1, m2, m3, m4, m5⟩ := m_counts (σ := mS σM) (s := s) (p := k) (puff := x3) (beat := x4) (x := x5) (y := x6) (spit := gI σM 12 0 5 7) (by rw [mS_c]; exact hz)
  rw [mS_c] at m3 m4 m5
  have g : FMS (mS σM) σ3 := m2.m (by decide) (by decide) (by decide)
  have hle := r7.le hz
  have hA := oAll_le hz
  have hS := oSum_le hz
  simp only [g1, g2, g3, g4, k1, e5, gd_at h.t5, r1, c_sum r7 hz, m1, r7.2.2.2, m4, m5, if_false, Bool.false_and, Bool.and_false, Bool.true_and, Bool.and_true, Bool.false_eq_true, if_true, Bool.and_self, ans_eq, ref_eq, agr_eq, den_eq, mref_eq, mno_eq, bd_some, Option.bind_some, ne_2_0, ne_5_0, nI_l (show l * oAll (gI σM 12 0 5, s, k, x3, x4, x5, x6, gI σM 12 0 5 7) < 2 ^ 31 by omega), nI_l (show oAll (gI σM 12 0 5, s, k, x3, x4, x5, x6, gI σM 12 0 5 7) < 2 ^ 31 by omega), nI_l (show oSum (gI σM 12 0 5, s, k, x3, x4, x5, x6, gI σM 12 0 5 7) < 2 ^ 31 by omega), tell_both r7.1 (show l * oSum (gI σM 12 0 5, s, k, x3, x4, x5, x6, gI σM 12 0 5 7) < 2147483648 by omega) (show l * oAll (gI σM 12 0 5, s, k, x3, x4, x5, x6, gI σM 12 0 5 7) < 2147483648 by omega) hA.1, frac_both (show oSum (gI σM 12 0 5, s, k, x3, x4, x5, x6, gI σM 12 0 5 7) < 2147483648 by omega) (show oAll (gI σM 12 0 5, s, k, x3, x4, x5, x6, gI σM 12 0 5 7) < 2147483648 by omega) hA.1]
  exact ⟨_, _, _, rfl, rfl, h.tel F g _ _⟩
/-- the best so far on both sides -/
def BestR (any : Bool) (σ σm : Mem) (best : Int32) : Prop :=
  (any = false ∧ gB σ 1 0 0 0 = false ∧ gL σm 12 0 0 35 = -1 ∧ gL σm 12 0 0 36 = 1) ∨
  (any = true ∧ gB σ 1 0 0 0 = true ∧ gI σ 1 0 0 1 = best ∧ ∃ l T B : Nat, 1 ≤ l ∧ 1 ≤ B ∧ l * T ≤ 6760 ∧ l * B ≤ 338 ∧ gL σ 1 0 0 2 = lN (l * T) ∧ gL σ 1 0 0 3 = lN (l * B) ∧ gL σm 12 0 0 35 = lN T ∧ gL σm 12 0 0 36 = lN B)
theorem c_begin : ∃ σ', F1_begin σ = some ((), σ') ∧ FC [1] σ σ' ∧ gB σ' 1 0 0 0 = false := by
  unfold F1_begin
  simp only [bnd_eq]
  refine ⟨_, rfl, ?_, ?_⟩
  · repeat' first | exact FC.z | refine FC.sI ?_ (by decide) | refine FC.sL ?_ (by decide) | refine FC.sB ?_ (by decide)
  · simp (disch := decide) only [rI_s, rI_n, rI_f, rI_a, rI_c, rL_s, rL_n, rL_f, rL_a, rL_c, rB_s, rB_n, rB_a, rR_s, rR_n, gI_sL, gI_sB, gI_sR, gL_sI, gL_sB, gL_sR, gB_sI, gB_sL, gB_sR, gR_sI, gR_sL, gR_sB]
theorem m_noBest : ∃ σ', F12_noBest σ = some ((), σ') ∧ FM [] [35, 36] [] σ σ' ∧ gL σ' 12 0 0 35 = -1 ∧ gL σ' 12 0 0 36 = 1 := by
  unfold F12_noBest
  simp only [bnd_eq]
  refine ⟨_, rfl, ?_, ?_, ?_⟩
  · repeat' first | exact FM.z | refine FM.sI ?_ (by decide) | refine FM.sL ?_ (by decide) | refine FM.sP ?_ (by decide) (by decide) | refine FM.sPL ?_ (by decide) (by decide)
  · simp (disch := decide) only [rI_s, rI_n, rI_f, rI_a, rI_c, rL_s, rL_n, rL_f, rL_a, rL_c, rB_s, rB_n, rB_a, rR_s, rR_n, gI_sL, gI_sB, gI_sR, gL_sI, gL_sB, gL_sR, gB_sI, gB_sL, gB_sR, gR_sI, gR_sL, gR_sB]
  · simp (disch := decide) only [rI_s, rI_n, rI_f, rI_a, rI_c, rL_s, rL_n, rL_f, rL_a, rL_c, rB_s, rB_n, rB_a, rR_s, rR_n, gI_sL, gI_sB, gI_sR, gL_sI, gL_sB, gL_sR, gB_sI, gB_sL, gB_sR, gR_sI, gR_sL, gR_sB]
/-- a chance is offered on both sides -/
theorem best_offer {any : Bool} {best w : Int32} {z : ShN} {l : Nat} (b : BestR any σ σm best) (hz : ShOk z) (h1 : ChR σ 0 z l) (h33 : gI σm 12 0 0 33 = nI (oAll z)) (h34 : gI σm 12 0 0 34 = nI (oSum z)) :
    ∃ σ' σm' bt, F1_offer σ w (lN (l * oSum z)) (Int32.toInt64 (gI σ 2 0 0 1)) = some ((), σ') ∧ FC [1] σ σ' ∧ F12_isBetter σm = some (bt, σm') ∧ FM [] [35, 36] [] σm σm' ∧ BestR true σ' σm' (if bt = true then w else best) := by
  have hle := h1.le hz
  have hA := oAll_le hz
  have hS := oSum_le hz
  have rep : ∃ σ', (bnd (sB σ 1 0 0 0 true) fun s_5 => bnd (sI s_5 1 0 0 1 w) fun s_6 => bnd (sL s_6 1 0 0 2 (lN (l * oSum z))) fun s_7 => bnd (sL s_7 1 0 0 3 (lN (l * oAll z))) fun s_8 => some ((), s_8)) = some ((), σ') ∧ FC [1] σ σ' ∧ gB σ' 1 0 0 0 = true ∧ gI σ' 1 0 0 1 = w ∧ gL σ' 1 0 0 2 = lN (l * oSum z) ∧ gL σ' 1 0 0 3 = lN (l * oAll z) := by
    simp only [bnd_eq]
    refine ⟨_, rfl, ?_, ?_, ?_, ?_, ?_⟩
    · repeat' first | exact FC.z | refine FC.sI ?_ (by decide) | refine FC.sL ?_ (by decide) | refine FC.sB ?_ (by decide)
    all_goals simp (disch := decide) only [rI_s, rI_n, rI_f, rI_a, rI_c, rL_s, rL_n, rL_f, rL_a, rL_c, rB_s, rB_n, rB_a, rR_s, rR_n, gI_sL, gI_sB, gI_sR, gL_sI, gL_sB, gL_sR, gB_sI, gB_sL, gB_sR, gR_sI, gR_sL, gR_sB]
  have repm : ∃ σm', (bnd (sL σm 12 0 0 35 (lN (oSum z))) fun s_1 => bnd (sL s_1 12 0 0 36 (Int32.toInt64 (gI s_1 12 0 0 33))) fun s_2 => some (true, s_2)) = some (true, σm') ∧ FM [] [35, 36] [] σm σm' ∧ gL σm' 12 0 0 35 = lN (oSum z) ∧ gL σm' 12 0 0 36 = lN (oAll z) := by
    simp only [bnd_eq]
    refine ⟨_, rfl, ?_, ?_, ?_⟩
    · repeat' first | exact FM.z | refine FM.sI ?_ (by decide) | refine FM.sL ?_ (by decide) | refine FM.sP ?_ (by decide) (by decide) | refine FM.sPL ?_ (by decide) (by decide)
    · simp (disch := decide) only [rI_s, rI_n, rI_f, rI_a, rI_c, rL_s, rL_n, rL_f, rL_a, rL_c, rB_s, rB_n, rB_a, rR_s, rR_n, gI_sL, gI_sB, gI_sR, gL_sI, gL_sB, gL_sR, gB_sI, gB_sL, gB_sR, gR_sI, gR_sL, gR_sB]
    · rw [rL_s, gI_sL, h33, nI_l (by omega)]
  obtain ⟨σ', c1, c2, c3, c4, c5, c6⟩ := rep
  obtain ⟨σm', d1, d2, d3, d4⟩ := repm
  have fin : BestR true σ' σm' w := .inr ⟨rfl, c3, c4, l, oSum z, oAll z, h1.1, hA.1, hle.2.2.2, hle.1, c5, c6, d3, d4⟩
  unfold F1_offer F12_isBetter
  rw [h1.2.2.2, h33, h34, nI_l (show l * oAll z < 2 ^ 31 by omega), nI_l (show oAll z < 2 ^ 31 by omega), nI_l (show oSum z < 2 ^ 31 by omega)]
  rcases b with ⟨-, b1, b2, b3⟩ | ⟨-, b1, b2, l', T, B, b3, b4, b5, b6, b7, b8, b9, b10⟩
  · have hlt : gL σm 12 0 0 35 * lN (oAll z) < lN (oSum z) * gL σm 12 0 0 36 := by
      rw [b2, b3, Int64.mul_one, i64_lt, Int64.neg_mul, Int64.one_mul, i64_neg (by rw [lN_int (by omega)]; omega), lN_int (by omega), lN_int (by omega)]; omega
    rw [b1, if_neg (by decide), if_pos hlt]
    exact ⟨σ', σm', true, c1, c2, d1, d2, fin⟩
  · have hl : 1 ≤ l := h1.1
    have hB : B ≤ 338 := Nat.le_trans (Nat.le_mul_of_pos_left B (by omega)) b6
    have hT : T ≤ 6760 := Nat.le_trans (Nat.le_mul_of_pos_left T (by omega)) b5
    have x1 : l * oSum z * (l' * B) ≤ 6760 * 338 := Nat.mul_le_mul hle.2.2.2 b6
    have x2 : l' * T * (l * oAll z) ≤ 6760 * 338 := Nat.mul_le_mul b5 hle.1
    have x3 : T * oAll z ≤ 6760 * 338 := Nat.mul_le_mul hT hA.2
    have x4 : oSum z * B ≤ 6760 * 338 := Nat.mul_le_mul (by omega) hB
    have y1 : l * oSum z * (l' * B) = l * l' * (oSum z * B) := by rw [Nat.mul_mul_mul_comm]
    have y2 : l' * T * (l * oAll z) = l * l' * (T * oAll z) := by rw [Nat.mul_mul_mul_comm, Nat.mul_comm l' l]
    have hll : 0 < l * l' := Nat.mul_pos (by omega) (by omega)
    rw [b1, if_pos rfl, b7, b8, b9, b10, lN_mul, lN_mul, lN_mul, lN_mul]
    by_cases hc : oSum z * B ≤ T * oAll z
    · rw [if_pos ((lN_le (by omega) (by omega)).mpr (by rw [y1, y2]; exact Nat.mul_le_mul_left _ hc)), if_neg (fun e => by have := (lN_lt (by omega) (by omega)).mp e; omega)]
      exact ⟨σ, σm, false, rfl, FC.z, rfl, FM.z, .inr ⟨rfl, b1, b2, l', T, B, b3, b4, b5, b6, b7, b8, b9, b10⟩⟩
    · rw [if_neg (fun e => by
        have h9 := (lN_le (by omega) (by omega)).mp e
        rw [y1, y2] at h9
        exact hc (Nat.le_of_mul_le_mul_left h9 hll)), if_pos ((lN_lt (by omega) (by omega)).mpr (by omega))]
      exact ⟨σ', σm', true, c1, c2, d1, d2, fin⟩
theorem BestR.fc {any : Bool} {best : Int32} {σ' σm' : Mem} {S i q : List Nat} (b : BestR any σ σm best) (f : FC S σ σ') (h1 : 1 ∉ S) (g : FM i [] q σm σm') : BestR any σ' σm' best := by
  have e1 : gB σ' 1 0 0 0 = gB σ 1 0 0 0 := by rw [f.fB 1 0 0 h1]
  have e2 : gI σ' 1 0 0 1 = gI σ 1 0 0 1 := by rw [f.fI 1 0 0 h1]
  have e3 : gL σ' 1 0 0 2 = gL σ 1 0 0 2 := by rw [f.fL 1 0 0 h1]
  have e4 : gL σ' 1 0 0 3 = gL σ 1 0 0 3 := by rw [f.fL 1 0 0 h1]
  have e5 := g.2.1 35 (List.not_mem_nil)
  have e6 := g.2.1 36 (List.not_mem_nil)
  simp only [BestR, e1, e2, e3, e4, e5, e6] at b ⊢
  exact b
/-- one candidate: the shot is taken, reckoned and offered -/
theorem best_step {any : Bool} {best w : Int32} {z : ShN} {t : Nat} (b : BestR any σ σm best) (hz : ShOk z) (ha : AimOk z) (ht : TentT (gI σ 9 t) z.1) (htR : gR σ 11 0 0 5 = t) (h5 : t < 5) (hs : ShotZ σ z) (hc : gI σm 12 0 5 = z.1) :
    ∃ σ' σm1 σm' bt, F11_offerMean σ w = some ((), σ') ∧ FC [1, 2, 6] σ σ' ∧ F12_counts σm (nI z.2.1) (nI z.2.2.1) z.2.2.2.1 z.2.2.2.2.1 z.2.2.2.2.2.1 z.2.2.2.2.2.2.1 z.2.2.2.2.2.2.2 = some ((), σm1) ∧ F12_isBetter σm1 = some (bt, σm') ∧
      FM [28, 29, 30, 31, 33, 34] [35, 36] [8] σm σm' ∧ BestR true σ' σm' (if bt = true then w else best) := by
  obtain ⟨σ2, l, r1, r2, r3, r4, r5, r6, r7⟩ := c_chances (q := 0) ht hz ha hs
  obtain ⟨c, s, p, puff, beat, x, y, spit⟩ := z
  simp only at hc
  subst hc
  obtain ⟨σm1, m1, m2, m3, m4, m5⟩ := m_counts (σ := σm) hz
  obtain ⟨σ', σm', bt, k1, k2, k3, k4, k5⟩ := best_offer (w := w) (b.fc r2 (by decide) m2) hz r7 m4 m5
  refine ⟨σ', σm1, σm', bt, ?_, (r2.m (by decide)).t (k2.m (by decide)), m1, k3, (m2.m (by decide) (by decide) (by decide)).t (k4.m (by decide) (by decide) (by decide)), k5⟩
  unfold F11_offerMean
  rw [htR, gd_at h5, r1, bd_some, c_sum r7 hz, Option.bind_some, k1, bd_some]
/-- the best is told on both sides -/
theorem best_end (h : Rel σC σM) {best : Int32} (b : BestR true σ σm best) (f : FC [0, 1, 2, 6] σC σ) (g : FMS (mS σM) σm) :
    ∃ σ' σm', F11_answerBest σ = some (best, σ') ∧ F12_fraction σm (gL σm 12 0 0 35) (gL σm 12 0 0 36) = some (true, σm') ∧ Rel σ' σm' := by
  rcases b with ⟨b1, -⟩ | ⟨-, b1, b2, l, T, B, b3, b4, b5, b6, b7, b8, b9, b10⟩
  · cases b1
  have hB : B ≤ 338 := Nat.le_trans (Nat.le_mul_of_pos_left B (by omega)) b6
  have hT : T ≤ 6760 := Nat.le_trans (Nat.le_mul_of_pos_left T (by omega)) b5
  unfold F11_answerBest
  rw [b7, b8, b9, b10, tell_both b3 (by omega) (by omega) b4, frac_both (by omega) (by omega) b4, bd_some, ans_eq, bd_some]
  refine ⟨_, _, ?_, rfl, h.tel f.pcs g _ _⟩
  rw [gI_sL, gI_sL, b2]
end BEST
