/-! PURE. Calls that ask of one shot. -/
theorem ne_2_0 : ((2 : Int32) = 0) = False := by decide
theorem ne_5_0 : ((5 : Int32) = 0) = False := by decide
section ASK
variable {σC σM σ : Mem} {p s : Nat}
theorem c_take (t5 : gR σ 11 0 0 5 < 5) (x1 x2 x3 x4 x5 x6 : Int32) : ∃ σ', F11_takeShot σ x1 x2 x3 x4 x5 x6 = some ((), σ') ∧ FC [6] σ σ' ∧ gI σ' 6 0 0 0 = x1 ∧ gI σ' 6 0 0 1 = x2 ∧ gI σ' 6 0 0 2 = x3 ∧ gI σ' 6 0 0 3 = x4 ∧ gI σ' 6 0 0 4 = x5 ∧ gI σ' 6 0 0 5 = x6 ∧ gI σ' 6 0 0 6 = gI σ 7 0 0 0 ∧ gI σ' 6 0 0 7 = gI σ 9 (gR σ 11 0 0 5) 0 0 := by
  unfold F11_takeShot
  simp only [bnd_eq, gR_sI, gd_at t5]
  refine ⟨_, rfl, ?_, ?_, ?_, ?_, ?_, ?_, ?_, ?_, ?_⟩
  · repeat' first | exact FC.z | refine FC.sI ?_ (by decide) | refine FC.sL ?_ (by decide) | refine FC.sB ?_ (by decide)
  all_goals simp (disch := decide) only [rI_s, rI_n, rI_a]
theorem Rel.fct (h : Rel σC σM) {S : List Nat} (f : FC S σC σ) (h11 : 11 ∉ S) : gR σ 11 0 0 5 = gR σC 11 0 0 5 := by rw [f.fR 11 0 0 h11]
theorem c_takeZ (h : Rel σC σM) (f : FC [0, 1, 2, 6] σC σ) (s p : Nat) (puff beat x y : Int32) : ∃ σ', F11_takeShot σ (nI s) (nI p) puff beat x y = some ((), σ') ∧ FC [6] σ σ' ∧ ShotZ σ' (gI σM 12 0 5, s, p, puff, beat, x, y, gI σM 12 0 5 7) := by
  obtain ⟨σ', h1, h2, h3, h4, h5, h6, h7, h8, h9, h10⟩ := c_take (σ := σ) (by rw [h.fct f (by decide)]; exact h.t5) (nI s) (nI p) puff beat x y
  refine ⟨σ', h1, h2, h3, h4, h5, h6, h7, h8, ?_, ?_⟩
  · rw [h9, f.fI 7 0 0 (by decide)]; exact h.sp.1
  · rw [h10, h.fct f (by decide), f.fI 9 _ _ (by decide)]; exact h.t0
theorem c_wf (h : Rel σC σM) {x2 x3 : Int32} (hp : p < nat (gI σM 12 0 5 5)) (hpw : F11_within (nI p) 0 (gI σM 12 0 5 5 - 1) = true) (h1 : F11_within x2 1 40 = true) (h2 : F11_within x3 0 20 = true) :
    ∃ σ', F11_wrongFlight σC (nI p) x2 x3 = some (0, σ') ∧ FC [6] σC σ' ∧ Reck σ' 0 (gI σM 12 0 5) p x2 x3 := by
  obtain ⟨σ1, k1, k2, k3, k4, k5, k6, k7, k8, k9, k10⟩ := c_take (σ := σC) h.t5 (-1) (nI p) x2 0 0 0
  unfold F11_wrongFlight
  rw [c_isPea h, Option.bind_some, if_pos hpw, if_pos h1, if_pos h2, k1, bd_some, bnd_eq, gd_at (by rw [gR_sI, h.fct k2 (by decide)]; exact h.t5), gR_sI, h.fct k2 (by decide)]
  have f : FC [6] σC (sI σ1 6 0 0 6 x3) := FC.sI k2 (by decide)
  obtain ⟨σ2, r1, r2, r3, r4⟩ := c_reckon (σ := sI σ1 6 0 0 6 x3) (t0 := 0) (h.tt.fc f (by decide)) h.ok5 hp (wn_int h2) ⟨by rw [rI_n (by decide), k4], by rw [rI_n (by decide), k5], rI_s, by rw [rI_n (by decide), k10]; exact h.t0⟩
  exact ⟨σ2, by rw [r1, bd_some], f.t r2, r4⟩
theorem FC.w6 {σ' : Mem} (f : FC [6] σ σ') : FC [0, 1, 2, 6] σ σ' := f.m (by decide)
theorem FC.w26 {σ' : Mem} (f : FC [2, 6] σ σ') : FC [0, 1, 2, 6] σ σ' := f.m (by decide)
theorem st_becomes (h : Rel σC σM) (x y z : Int32) : Stq (F11_becomes σC x y z) (F12_becomes σM x y z) := by
  have o := h.ok5
  have o' : TentOk (gI (mS σM) 12 0 5) := by rw [mS_c]; exact o
  unfold F11_becomes F12_becomes
  rw [bnd_mS, m_isPea, mS_c]
  simp only [Option.bind_some, wi_0, wi_1, isPuffing_w, isSpit_w, isAim_w, isPlace_w, wi_0_8, wi_0_20, wi_0_3, wi_m60_60, wi_m1_1, wi_0_1, wi_m999_999, wi_1_20, wi_1_30, wi_0_99, wi_1_5, wi_0_2, wi_m99_99, wi_1_12, wi_m6_6, wi_0_9999, wi_0_4, wi_1_40]
  by_cases hp : ¬ F11_within x 0 (gI σM 12 0 5 5 - 1) = true
  · simp only [F11_wrongFlight, c_isPea h, hp, if_false, Bool.false_and, Bool.and_false, Bool.true_and, Bool.and_true, Bool.false_eq_true, if_true, Bool.and_self, ans_eq, ref_eq, agr_eq, den_eq, mref_eq, mno_eq, bd_some, Option.bind_some, ne_2_0, ne_5_0]
    exact ⟨_, _, _, rfl, rfl, h.no 2⟩
  replace hp := Decidable.not_not.mp hp
  obtain ⟨k, hk, rfl⟩ := in_rng (n5_int o) hp
  by_cases h1 : ¬ F11_within y 1 40 = true
  · simp only [F11_wrongFlight, c_isPea h, hp, h1, if_false, Bool.false_and, Bool.and_false, Bool.true_and, Bool.and_true, Bool.false_eq_true, if_true, Bool.and_self, ans_eq, ref_eq, agr_eq, den_eq, mref_eq, mno_eq, bd_some, Option.bind_some, ne_2_0, ne_5_0]
    exact ⟨_, _, _, rfl, rfl, h.no 5⟩
  replace h1 := Decidable.not_not.mp h1
  by_cases h2 : ¬ F11_within z 0 20 = true
  · simp only [F11_wrongFlight, c_isPea h, hp, h1, h2, if_false, Bool.false_and, Bool.and_false, Bool.true_and, Bool.and_true, Bool.false_eq_true, if_true, Bool.and_self, ans_eq, ref_eq, agr_eq, den_eq, mref_eq, mno_eq, bd_some, Option.bind_some, ne_2_0, ne_5_0]
    exact ⟨_, _, _, rfl, rfl, h.no 5⟩
  replace h2 := Decidable.not_not.mp h2
  obtain ⟨σ', k1, k2, k3, k4⟩ := c_wf h hk hp h1 h2
  have hm := m_fate (σ := mS σM) (puff := y) o' (by rw [mS_c]; exact hk) (wn_int h2)
  rw [mS_c] at hm
  simp only [hp, h1, h2, k1, hm, k3, if_false, Bool.false_and, Bool.and_false, Bool.true_and, Bool.and_true, Bool.false_eq_true, if_true, Bool.and_self, ans_eq, ref_eq, agr_eq, den_eq, mref_eq, mno_eq, bd_some, Option.bind_some, ne_2_0, ne_5_0]
  exact ⟨_, _, _, rfl, rfl, h.ans k2.w6.pcs FM.z⟩
theorem st_pace (h : Rel σC σM) (x y z : Int32) : Stq (F11_pace σC x y z) (F12_pace σM x y z) := by
  have o := h.ok5
  have o' : TentOk (gI (mS σM) 12 0 5) := by rw [mS_c]; exact o
  unfold F11_pace F12_pace
  rw [bnd_mS, m_isPea, mS_c]
  simp only [Option.bind_some, wi_0, wi_1, isPuffing_w, isSpit_w, isAim_w, isPlace_w, wi_0_8, wi_0_20, wi_0_3, wi_m60_60, wi_m1_1, wi_0_1, wi_m999_999, wi_1_20, wi_1_30, wi_0_99, wi_1_5, wi_0_2, wi_m99_99, wi_1_12, wi_m6_6, wi_0_9999, wi_0_4, wi_1_40]
  by_cases hp : ¬ F11_within x 0 (gI σM 12 0 5 5 - 1) = true
  · simp only [F11_wrongFlight, c_isPea h, hp, if_false, Bool.false_and, Bool.and_false, Bool.true_and, Bool.and_true, Bool.false_eq_true, if_true, Bool.and_self, ans_eq, ref_eq, agr_eq, den_eq, mref_eq, mno_eq, bd_some, Option.bind_some, ne_2_0, ne_5_0]
    exact ⟨_, _, _, rfl, rfl, h.no 2⟩
  replace hp := Decidable.not_not.mp hp
  obtain ⟨k, hk, rfl⟩ := in_rng (n5_int o) hp
  by_cases h1 : ¬ F11_within y 1 40 = true
  · simp only [F11_wrongFlight, c_isPea h, hp, h1, if_false, Bool.false_and, Bool.and_false, Bool.true_and, Bool.and_true, Bool.false_eq_true, if_true, Bool.and_self, ans_eq, ref_eq, agr_eq, den_eq, mref_eq, mno_eq, bd_some, Option.bind_some, ne_2_0, ne_5_0]
    exact ⟨_, _, _, rfl, rfl, h.no 5⟩
  replace h1 := Decidable.not_not.mp h1
  by_cases h2 : ¬ F11_within z 0 20 = true
  · simp only [F11_wrongFlight, c_isPea h, hp, h1, h2, if_false, Bool.false_and, Bool.and_false, Bool.true_and, Bool.and_true, Bool.false_eq_true, if_true, Bool.and_self, ans_eq, ref_eq, agr_eq, den_eq, mref_eq, mno_eq, bd_some, Option.bind_some, ne_2_0, ne_5_0]
    exact ⟨_, _, _, rfl, rfl, h.no 5⟩
  replace h2 := Decidable.not_not.mp h2
  obtain ⟨σ', k1, k2, k3, k4⟩ := c_wf h hk hp h1 h2
  have hm := m_fate (σ := mS σM) (puff := y) o' (by rw [mS_c]; exact hk) (wn_int h2)
  rw [mS_c] at hm
  simp only [hp, h1, h2, k1, hm, k3, if_false, Bool.false_and, Bool.and_false, Bool.true_and, Bool.and_true, Bool.false_eq_true, if_true, Bool.and_self, ans_eq, ref_eq, agr_eq, den_eq, mref_eq, mno_eq, bd_some, Option.bind_some, ne_2_0, ne_5_0]
  by_cases hf : sFate (gI σM 12 0 5) k y z = 0
  · have hq := m_pace (σ := mS σM) (puff := y) o' (by rw [mS_c]; exact hk) (by rw [mS_c]; exact i32_le.mp (sFate_0 hf).1) (wn_int h2)
    rw [mS_c] at hq
    simp only [hf, hq, (k4 hf).1, if_false, Bool.false_and, Bool.and_false, Bool.true_and, Bool.and_true, Bool.false_eq_true, if_true, Bool.and_self, ans_eq, ref_eq, agr_eq, den_eq, mref_eq, mno_eq, bd_some, Option.bind_some, ne_2_0, ne_5_0]
    exact ⟨_, _, _, rfl, rfl, h.ans k2.w6.pcs FM.z⟩
  · simp only [hf, if_false, Bool.false_and, Bool.and_false, Bool.true_and, Bool.and_true, Bool.false_eq_true, if_true, Bool.and_self, ans_eq, ref_eq, agr_eq, den_eq, mref_eq, mno_eq, bd_some, Option.bind_some, ne_2_0, ne_5_0]
    exact ⟨_, _, _, rfl, rfl, h.ref k2.w6.pcs FM.z 9⟩
theorem st_flight (h : Rel σC σM) (x y z w : Int32) : Stq (F11_flight σC x y z w) (F12_flight σM x y z w) := by
  have o := h.ok5
  have o' : TentOk (gI (mS σM) 12 0 5) := by rw [mS_c]; exact o
  unfold F11_flight F12_flight
  rw [bnd_mS, m_isPea, mS_c]
  simp only [Option.bind_some, wi_0, wi_1, isPuffing_w, isSpit_w, isAim_w, isPlace_w, wi_0_8, wi_0_20, wi_0_3, wi_m60_60, wi_m1_1, wi_0_1, wi_m999_999, wi_1_20, wi_1_30, wi_0_99, wi_1_5, wi_0_2, wi_m99_99, wi_1_12, wi_m6_6, wi_0_9999, wi_0_4, wi_1_40]
  by_cases hp : ¬ F11_within x 0 (gI σM 12 0 5 5 - 1) = true
  · simp only [F11_wrongFlight, c_isPea h, hp, if_false, Bool.false_and, Bool.and_false, Bool.true_and, Bool.and_true, Bool.false_eq_true, if_true, Bool.and_self, ans_eq, ref_eq, agr_eq, den_eq, mref_eq, mno_eq, bd_some, Option.bind_some, ne_2_0, ne_5_0]
    exact ⟨_, _, _, rfl, rfl, h.no 2⟩
  replace hp := Decidable.not_not.mp hp
  obtain ⟨k, hk, rfl⟩ := in_rng (n5_int o) hp
  by_cases h1 : ¬ F11_within y 1 40 = true
  · simp only [F11_wrongFlight, c_isPea h, hp, h1, if_false, Bool.false_and, Bool.and_false, Bool.true_and, Bool.and_true, Bool.false_eq_true, if_true, Bool.and_self, ans_eq, ref_eq, agr_eq, den_eq, mref_eq, mno_eq, bd_some, Option.bind_some, ne_2_0, ne_5_0]
    exact ⟨_, _, _, rfl, rfl, h.no 5⟩
  replace h1 := Decidable.not_not.mp h1
  by_cases h2 : ¬ F11_within z 0 20 = true
  · simp only [F11_wrongFlight, c_isPea h, hp, h1, h2, if_false, Bool.false_and, Bool.and_false, Bool.true_and, Bool.and_true, Bool.false_eq_true, if_true, Bool.and_self, ans_eq, ref_eq, agr_eq, den_eq, mref_eq, mno_eq, bd_some, Option.bind_some, ne_2_0, ne_5_0]
    exact ⟨_, _, _, rfl, rfl, h.no 5⟩
  replace h2 := Decidable.not_not.mp h2
  obtain ⟨σ', k1, k2, k3, k4⟩ := c_wf h hk hp h1 h2
  by_cases h3 : ¬ F11_within w 0 3 = true
  · simp only [k1, hp, h1, h2, h3, if_false, Bool.false_and, Bool.and_false, Bool.true_and, Bool.and_true, Bool.false_eq_true, if_true, Bool.and_self, ans_eq, ref_eq, agr_eq, den_eq, mref_eq, mno_eq, bd_some, Option.bind_some, ne_2_0, ne_5_0]
    exact ⟨_, _, _, rfl, rfl, h.ref k2.w6.pcs FM.z 5⟩
  replace h3 := Decidable.not_not.mp h3
  obtain ⟨σ1, m1, m2, m3⟩ := m_flies (σ := mS σM) (puff := y) o' (by rw [mS_c]; exact hk) (wn_int h2)
  rw [mS_c] at m1 m3
  have g : FMS (mS σM) σ1 := m2.m (by decide) (by decide) (by decide)
  simp only [hp, h1, h2, h3, k1, k3, m1, if_false, Bool.false_and, Bool.and_false, Bool.true_and, Bool.and_true, Bool.false_eq_true, if_true, Bool.and_self, ans_eq, ref_eq, agr_eq, den_eq, mref_eq, mno_eq, bd_some, Option.bind_some, ne_2_0, ne_5_0]
  by_cases hf : sFate (gI σM 12 0 5) k y z = 0
  · obtain ⟨-, q1, q2, q3, q4⟩ := k4 hf
    obtain ⟨r1, r2, r3, r4⟩ := m3 hf
    have e0 : gI σ' 6 0 0 10 = gI σ1 12 0 0 28 := by rw [q1, r1]
    have e1 : gI σ' 6 0 0 11 = gI σ1 12 0 0 29 := by rw [q2, r2, e0]
    have e2 : gI σ' 6 0 0 12 = gI σ1 12 0 0 30 := by rw [q3, r3, e0]
    have e3 : gI σ' 6 0 0 13 = gI σ1 12 0 0 31 := by rw [q4, r4, e0]
    simp only [hf, decide_true, if_false, Bool.false_and, Bool.and_false, Bool.true_and, Bool.and_true, Bool.false_eq_true, if_true, Bool.and_self, ans_eq, ref_eq, agr_eq, den_eq, mref_eq, mno_eq, bd_some, Option.bind_some, ne_2_0, ne_5_0, e0, e1, e2, e3]
    by_cases w0 : w = 0
    · simp only [w0, if_true]
      exact ⟨_, _, _, rfl, rfl, h.ans k2.w6.pcs g⟩
    by_cases w1 : w = 1
    · simp only [w0, w1, if_true, if_false]
      exact ⟨_, _, _, rfl, by rw [if_neg (by decide)], h.ans k2.w6.pcs g⟩
    by_cases w2 : w = 2
    · simp only [w0, w1, w2, if_true, if_false]
      exact ⟨_, _, _, rfl, by rw [if_neg (by decide), if_neg (by decide)], h.ans k2.w6.pcs g⟩
    simp only [w0, w1, w2, if_false]
    exact ⟨_, _, _, rfl, rfl, h.ans k2.w6.pcs g⟩
  · simp only [hf, decide_false, if_false, Bool.false_and, Bool.and_false, Bool.true_and, Bool.and_true, Bool.false_eq_true, if_true, Bool.and_self, ans_eq, ref_eq, agr_eq, den_eq, mref_eq, mno_eq, bd_some, Option.bind_some, ne_2_0, ne_5_0]
    exact ⟨_, _, _, rfl, rfl, h.ref k2.w6.pcs g 9⟩
/-- the status of what asks with a shooter -/
theorem ws_s (h : Rel σC σM) {x1 : Int32} (x2 x3 x4 x5 x6 : Int32) (hs : ¬ F11_within x1 0 (gI σM 12 0 5 6 - 1) = true) : F11_wrongShot σC x1 x2 x3 x4 x5 x6 = some 2 := by
  simp only [F11_wrongShot, c_isShooter h, hs, if_false, Bool.false_and, Bool.and_false, Bool.true_and, Bool.and_true, Bool.false_eq_true, if_true, Bool.and_self, ans_eq, ref_eq, agr_eq, den_eq, mref_eq, mno_eq, bd_some, Option.bind_some, ne_2_0, ne_5_0]
theorem ws_p (h : Rel σC σM) {x1 x2 : Int32} (x3 x4 x5 x6 : Int32) (hs : F11_within x1 0 (gI σM 12 0 5 6 - 1) = true) (hp : ¬ F11_within x2 0 (gI σM 12 0 5 5 - 1) = true) : F11_wrongShot σC x1 x2 x3 x4 x5 x6 = some 2 := by
  simp only [F11_wrongShot, c_isShooter h, c_isPea h, hs, hp, if_false, Bool.false_and, Bool.and_false, Bool.true_and, Bool.and_true, Bool.false_eq_true, if_true, Bool.and_self, ans_eq, ref_eq, agr_eq, den_eq, mref_eq, mno_eq, bd_some, Option.bind_some, ne_2_0, ne_5_0]
theorem ws_in (h : Rel σC σM) {x2 : Int32} (x3 x4 x5 x6 : Int32) (hk : s < nat (gI σM 12 0 5 6)) (hs : F11_within (nI s) 0 (gI σM 12 0 5 6 - 1) = true) (hp : F11_within x2 0 (gI σM 12 0 5 5 - 1) = true) :
    F11_wrongShot σC (nI s) x2 x3 x4 x5 x6 = some (if (F11_within x3 1 (gI σM 12 0 5 (53 + s)) && (F11_within x4 0 3 && (F11_within x5 (-60) 60 && F11_within x6 (-60) 60))) = true then 0 else 5) := by
  have h6 := ok_n6 h.ok5
  simp (disch := omega) only [F11_wrongShot, c_isShooter h, c_isPea h, hs, hp, if_true, Option.bind_some, gd_at h.t5, ald_nI, (h.tt.2.2.2 s hk).1, F11_wrongShot_p74]
  cases F11_within x3 1 (gI σM 12 0 5 (53 + s)) <;> cases F11_within x4 0 3 <;> cases F11_within x5 (-60) 60 <;> cases F11_within x6 (-60) 60 <;> rfl
theorem m_isShot {x y : Int32} : F12_isShot σ x y = some (F11_within x 0 (gI σ 12 0 5 6 - 1) && F11_within y 0 (gI σ 12 0 5 5 - 1)) := by
  unfold F12_isShot
  rw [m_isShooter, m_isPea]
  simp only [Option.bind_some]
  cases F11_within x 0 (gI σ 12 0 5 6 - 1) <;> cases F11_within y 0 (gI σ 12 0 5 5 - 1) <;> rfl
theorem puff_ok {c : Nat → Int32} (o : TentOk c) (hs : s < nat (c 6)) {puff : Int32} (h : F11_within puff 1 (c (53 + s)) = true) : 1 ≤ puff.toInt ∧ puff.toInt ≤ 40 := by
  have h1 := ok_sh o hs
  have h2 := wn_int h
  have e1 : (1 : Int32).toInt = 1 := rfl
  omega
theorem aim_ok {x : Int32} (h : F11_within x (-60) 60 = true) : -60 ≤ x.toInt ∧ x.toInt ≤ 60 := wn_int h
end ASK
