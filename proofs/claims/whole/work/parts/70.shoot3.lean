/-! PURE. shoot, wipe. -/
section SHV
variable {σC σM σC1 σM1 : Mem}
theorem RelP.st (p : RelP σC1 σM1) (hs : gI σM1 12 0 0 0 = 0) (ht : gL σC1 11 0 0 1 = gL σM1 12 0 0 2) (hb : gL σC1 11 0 0 2 = gL σM1 12 0 0 3) : Rel (cS σC1 0) σM1 :=
  ⟨p.congr PC_st rfl, by rw [hs]; exact rI_s, ht, hb⟩
theorem Rel.pl (h : Rel σC σM) {S : List Nat} (f : FC S σC σC1) (h4 : 4 ∉ S) (m1 : gI σM1 12 0 12 = gI σM 12 0 12) (m2 : gB σM1 12 0 0 = gB σM 12 0 0) :
    gB σC1 4 0 0 0 = gB σM1 12 0 0 47 ∧ (gB σM1 12 0 0 47 = true → gI σC1 4 0 0 2 = gI σM1 12 0 12 0 ∧ gI σC1 4 0 0 3 = gI σM1 12 0 12 1 ∧ gI σC1 4 0 0 4 = gI σM1 12 0 12 2 ∧ gI σC1 4 0 0 5 = gI σM1 12 0 12 3 ∧ gI σC1 4 0 0 6 = gI σM1 12 0 12 4) := by
  rw [f.fB 4 0 0 h4, f.fI 4 0 0 h4, m1, m2]
  exact h.1.2.2.2.2.2
/-- a call that changes the tally alone -/
theorem Rel.tal (h : Rel σC σM) {c' : Nat → Int32} {τ : Mem} (f : FC [6, 7] σC σC1) (hb : ∀ b, b ≠ 0 → TY σC1 b = TY σC b) (g : FMS (mS σM) τ) (agr : Agr (gI σM 12 0 5) c') (ta : TallyR (TY σC1 0) c') : Rel (cS σC1 0) (sIf τ 12 0 5 c') := by
  have e5 : gI (sIf τ 12 0 5 c') 12 0 5 = c' := rI_f
  have q : ∀ p, p ≠ 5 → gI (sIf τ 12 0 5 c') 12 0 p = gI τ 12 0 p := fun p hp => rI_c hp
  have ms : ∀ k, k ≠ 0 → k ≠ 1 → gI (mS σM) 12 0 0 k = gI σM 12 0 0 k := fun k h0 h1 => by rw [rI_n h0, rI_n h1]
  have mp : ∀ p, p ≠ 0 → gI (mS σM) 12 0 p = gI σM 12 0 p := fun p h0 => by rw [rI_c h0, rI_c h0]
  refine RelP.st (h.1.main f (by decide) (by decide) (by decide) (by decide) (by decide) (fun i => hb _ (by omega)) ⟨?_, ?_, ?_, ?_, ?_⟩ ⟨?_, ?_, ?_, ?_⟩ (by rw [e5]; exact agr) (by rw [e5]; exact ta) (h.pl f (by decide) ?_ ?_)) ?_ ?_ ?_
  · rw [q 1 (by decide), (g.2.2.2 1 (by decide) (by decide)).1, mp 1 (by decide)]
  · rw [q 2 (by decide), (g.2.2.2 2 (by decide) (by decide)).1, mp 2 (by decide)]
  · rw [gL_sI, (g.2.2.2 3 (by decide) (by decide)).2]; rfl
  · rw [q 4 (by decide), (g.2.2.2 4 (by decide) (by decide)).1, mp 4 (by decide)]
  · rw [gL_sI, (g.2.2.2 7 (by decide) (by decide)).2]; rfl
  · rw [q 0 (by decide), g.1 8 (by decide), ms 8 (by decide) (by decide)]
  · rw [q 0 (by decide), g.1 10 (by decide), ms 10 (by decide) (by decide)]
  · rw [q 0 (by decide), g.1 11 (by decide), ms 11 (by decide) (by decide)]
  · rw [q 0 (by decide), g.1 23 (by decide), ms 23 (by decide) (by decide)]
  · rw [q 12 (by decide), (g.2.2.2 12 (by decide) (by decide)).1, mp 12 (by decide)]
  · rw [gB_sI, g.2.2.1]; rfl
  · rw [q 0 (by decide), g.1 0 (by decide)]; exact rI_s
  · rw [f.fL 11 0 0 (by decide), gL_sI, g.2.1 2 (by decide), h.2.2.1]; rfl
  · rw [f.fL 11 0 0 (by decide), gL_sI, g.2.1 3 (by decide), h.2.2.2]; rfl
theorem st_shoot (h : Rel σC σM) (x1 x2 x3 x4 x5 x6 x7 x8 : Int32) : Stq (F11_shoot σC x1 x2 x3 x4 x5 x6 x7 x8) (F12_shoot σM x1 x2 x3 x4 x5 x6 x7 x8) := by
  have o := h.ok5
  have o' : TentOk (gI (mS σM) 12 0 5) := by rw [mS_c]; exact o
  have h6 := ok_n6 o
  obtain ⟨h8, e8⟩ := h.ho.n8
  have e1 : gI σC 7 0 0 1 = gI σM 12 0 5 8 := h.ta.1.2
  unfold F11_shoot F12_shoot
  rw [bnd_mS, m_isShot, mS_c]
  simp only [Option.bind_some, wi_0, wi_1, isPuffing_w, isSpit_w, isAim_w, isPlace_w, wi_0_8, wi_0_20, wi_0_3, wi_m60_60, wi_m1_1, wi_0_1, wi_m999_999, wi_1_20, wi_1_30, wi_0_99, wi_1_5, wi_0_2, wi_m99_99, wi_1_12, wi_m6_6, wi_0_9999, wi_0_4, wi_1_40]
  by_cases hs : ¬ F11_within x1 0 (gI σM 12 0 5 6 - 1) = true
  · rw [ws_s h _ _ _ _ _ hs]
    simp only [hs, if_false, Bool.false_and, Bool.and_false, Bool.true_and, Bool.and_true, Bool.false_eq_true, if_true, Bool.and_self, ans_eq, ref_eq, agr_eq, den_eq, mref_eq, mno_eq, bd_some, Option.bind_some, ne_2_0, ne_5_0]
    exact ⟨_, _, _, rfl, rfl, h.no 2⟩
  replace hs := Decidable.not_not.mp hs
  by_cases hp : ¬ F11_within x2 0 (gI σM 12 0 5 5 - 1) = true
  · rw [ws_p h _ _ _ _ hs hp]
    simp only [hp, if_false, Bool.false_and, Bool.and_false, Bool.true_and, Bool.and_true, Bool.false_eq_true, if_true, Bool.and_self, ans_eq, ref_eq, agr_eq, den_eq, mref_eq, mno_eq, bd_some, Option.bind_some, ne_2_0, ne_5_0]
    exact ⟨_, _, _, rfl, rfl, h.no 2⟩
  replace hp := Decidable.not_not.mp hp
  obtain ⟨k, hk, rfl⟩ := in_rng (n5_int o) hp
  obtain ⟨s, hk6, rfl⟩ := in_rng (n6_int o) hs
  rw [ws_in h x3 0 x4 x5 hk6 hs hp]
  simp (disch := omega) only [hs, hp, if_true, mS_c, ix_9, ix_15, ix_21, ix_29, ix_37, ix_45, ix_53, ix_59, ix_65, ix_71, ix_77, ix_83, ix_325, al_0, al_1, al_2, al_3, al_4, al_5, al_6, al_7, al_8, ald_nI, Option.bind_some, bnd_eq, bd_some, wn_003, Bool.and_self, Bool.true_and, e1]
  by_cases g1 : ¬ F11_within x3 1 (gI σM 12 0 5 (53 + s)) = true
  · simp only [g1, if_false, Bool.false_and, Bool.and_false, Bool.true_and, Bool.and_true, Bool.false_eq_true, if_true, Bool.and_self, ans_eq, ref_eq, agr_eq, den_eq, mref_eq, mno_eq, bd_some, Option.bind_some, ne_2_0, ne_5_0]
    exact ⟨_, _, _, rfl, rfl, h.no 5⟩
  replace g1 := Decidable.not_not.mp g1
  by_cases g2 : ¬ F11_within x4 (-60) 60 = true
  · simp only [g1, g2, if_false, Bool.false_and, Bool.and_false, Bool.true_and, Bool.and_true, Bool.false_eq_true, if_true, Bool.and_self, ans_eq, ref_eq, agr_eq, den_eq, mref_eq, mno_eq, bd_some, Option.bind_some, ne_2_0, ne_5_0]
    exact ⟨_, _, _, rfl, rfl, h.no 5⟩
  replace g2 := Decidable.not_not.mp g2
  by_cases g3 : ¬ F11_within x5 (-60) 60 = true
  · simp only [g1, g2, g3, if_false, Bool.false_and, Bool.and_false, Bool.true_and, Bool.and_true, Bool.false_eq_true, if_true, Bool.and_self, ans_eq, ref_eq, agr_eq, den_eq, mref_eq, mno_eq, bd_some, Option.bind_some, ne_2_0, ne_5_0]
    exact ⟨_, _, _, rfl, rfl, h.no 5⟩
  replace g3 := Decidable.not_not.mp g3
  by_cases g4 : ¬ F11_within x6 (-1) 1 = true
  · simp only [g1, g2, g3, g4, if_false, Bool.false_and, Bool.and_false, Bool.true_and, Bool.and_true, Bool.false_eq_true, if_true, Bool.and_self, ans_eq, ref_eq, agr_eq, den_eq, mref_eq, mno_eq, bd_some, Option.bind_some, ne_2_0, ne_5_0]
    exact ⟨_, _, _, rfl, rfl, h.no 5⟩
  replace g4 := Decidable.not_not.mp g4
  by_cases g5 : ¬ F11_within x7 (-6) 6 = true
  · simp only [g1, g2, g3, g4, g5, if_false, Bool.false_and, Bool.and_false, Bool.true_and, Bool.and_true, Bool.false_eq_true, if_true, Bool.and_self, ans_eq, ref_eq, agr_eq, den_eq, mref_eq, mno_eq, bd_some, Option.bind_some, ne_2_0, ne_5_0]
    exact ⟨_, _, _, rfl, rfl, h.no 5⟩
  replace g5 := Decidable.not_not.mp g5
  by_cases g6 : ¬ F11_within x8 (-6) 6 = true
  · simp only [g1, g2, g3, g4, g5, g6, if_false, Bool.false_and, Bool.and_false, Bool.true_and, Bool.and_true, Bool.false_eq_true, if_true, Bool.and_self, ans_eq, ref_eq, agr_eq, den_eq, mref_eq, mno_eq, bd_some, Option.bind_some, ne_2_0, ne_5_0]
    exact ⟨_, _, _, rfl, rfl, h.no 5⟩
  replace g6 := Decidable.not_not.mp g6
  by_cases g7 : nat (gI σM 12 0 5 8) = 60
  · have q1 : gI σM 12 0 5 8 = 60 := by rw [e8, g7]; rfl
    have q2 : ¬ (60 : Int32) < 60 := by decide
    simp only [g1, g2, g3, g4, g5, g6, q1, q2, if_false, Bool.false_and, Bool.and_false, Bool.true_and, Bool.and_true, Bool.false_eq_true, if_true, Bool.and_self, ans_eq, ref_eq, agr_eq, den_eq, mref_eq, mno_eq, bd_some, Option.bind_some, ne_2_0, ne_5_0]
    exact ⟨_, _, _, rfl, rfl, h.no 7⟩
  have q1 : gI σM 12 0 5 8 < 60 := by rw [e8]; exact nI_lt (a := nat (gI σM 12 0 5 8)) (b := 60) (by omega) (by omega)
  have q2 : ¬ gI σM 12 0 5 8 = 60 := fun e => by rw [e] at q1; exact absurd q1 (by decide)
  obtain ⟨σ1, k1, k2, k3⟩ := c_takeZ h FC.z s k x3 0 x4 x5
  have ht1 := h.tt.fc k2 (by decide)
  have hsp := h.sp.2
  have e5 : gR σ1 11 0 0 5 = gR σC 11 0 0 5 := h.fct k2 (by decide)
  obtain ⟨σ2, r1, r2, r3, r4, r5⟩ := c_reckon (σ := σ1) (t0 := 0) ht1 o hk hsp ⟨k3.2.1, k3.2.2.1, k3.2.2.2.2.2.2.1, k3.2.2.2.2.2.2.2⟩
  have k4 := k3.fc r3
  have ht2 := ht1.fc r2 (by decide)
  have f12 : FC [6] σC σ2 := k2.t r2
  have e6 : gR σ2 11 0 0 5 = gR σC 11 0 0 5 := h.fct f12 (by decide)
  obtain ⟨σ3, m1, m2, m3⟩ := m_flies (σ := mS σM) (puff := x3) o' (by rw [mS_c]; exact hk) hsp
  rw [mS_c] at m1 m3
  have g : FMS (mS σM) σ3 := m2.m (by decide) (by decide) (by decide)
  have c3 : gI σ3 12 0 5 = gI σM 12 0 5 := (m2.c (by decide)).trans mS_c
  simp only [g1, g2, g3, g4, g5, g6, q1, q2, k1, e5, e6, gd_at h.t5, r1, r4, m1, if_false, Bool.false_and, Bool.and_false, Bool.true_and, Bool.and_true, Bool.false_eq_true, if_true, Bool.and_self, ans_eq, ref_eq, agr_eq, den_eq, mref_eq, mno_eq, bd_some, Option.bind_some, ne_2_0, ne_5_0, c_strikeX ht2 o hk6 k4.1, c_strikeY ht2 o hk6 k4.1, k4.2.2.2.2.1, k4.2.2.2.2.2.1]
  by_cases hf : sFate (gI σM 12 0 5) k x3 (gI σM 12 0 5 7) = 0
  · obtain ⟨-, w1, w2, w3, w4⟩ := r5 hf
    obtain ⟨v1, v2, v3, v4⟩ := m3 hf
    have d0 : gI σ2 6 0 0 10 = gI σ3 12 0 0 28 := by rw [w1, v1]
    have d1 : gI σ2 6 0 0 11 = gI σ3 12 0 0 29 := by rw [w2, v2, d0]
    have d2 : gI σ2 6 0 0 12 = gI σ3 12 0 0 30 := by rw [w3, v3, d0]
    have d3 : gI σ2 6 0 0 13 = gI σ3 12 0 0 31 := by rw [w4, v4, d0]
    have ty2 : ∀ b, TY σ2 b = TY σC b := fun b => by simp only [TY, f12.fI 7 b _ (show 7 ∉ [6] by decide)]
    have eX : x4 + gI σM 12 0 5 (65 + s) + gI σ3 12 0 0 30 + x6 * gI σ3 12 0 0 31 + x7 = x4 + gI σM 12 0 5 (65 + s) + gI σ3 12 0 0 30 + x7 + x6 * gI σ3 12 0 0 31 := by grind
    have eY : x5 + gI σM 12 0 5 (71 + s) - gI σ3 12 0 0 29 + x8 = x5 + gI σM 12 0 5 (71 + s) + x8 - gI σ3 12 0 0 29 := by grind
    obtain ⟨σ4, z1, z2, z3, z4⟩ := c_strike (σ := σ2) (y := 0) (t2 := 0) (s := s) (p := k) (X := x4 + gI σM 12 0 5 (65 + s) + gI σ3 12 0 0 30 + x7 + x6 * gI σ3 12 0 0 31) (Y := x5 + gI σM 12 0 5 (71 + s) + x8 - gI σ3 12 0 0 29) ht2 o (by rw [ty2]; exact h.ta) (by omega) (by omega) k4.1 k4.2.1
    have zm := m_shoots (τ := σ3) (s := s) (p := k) c3 o h.ho hk6 (by omega) x4 x5 x6 x7 x8
    simp only [hf, decide_true, if_false, Bool.false_and, Bool.and_false, Bool.true_and, Bool.and_true, Bool.false_eq_true, if_true, Bool.and_self, ans_eq, ref_eq, agr_eq, den_eq, mref_eq, mno_eq, bd_some, Option.bind_some, ne_2_0, ne_5_0, d1, d2, d3, eX, eY, z1, zm]
    refine ⟨_, _, _, rfl, rfl, h.tal ((f12.m (by decide)).t (z2.m (by decide))) (fun b hb => by rw [z3 b hb, ty2]) g (str_agr (by omega) (by omega)) ?_⟩
    rw [z4, ty2]
    exact str_ta h.ta (by omega) (by omega)
  · simp only [hf, decide_false, if_false, Bool.false_and, Bool.and_false, Bool.true_and, Bool.and_true, Bool.false_eq_true, if_true, Bool.and_self, ans_eq, ref_eq, agr_eq, den_eq, mref_eq, mno_eq, bd_some, Option.bind_some, ne_2_0, ne_5_0]
    exact ⟨_, _, _, rfl, rfl, h.ref f12.w6.pcs g 9⟩
theorem st_wipe (h : Rel σC σM) : Stq (F11_wipe σC) (F12_wipe σM) := by
  have e7 := h.sp.1
  unfold F11_wipe F12_wipe
  rw [bnd_mS]
  simp only [mS_c, ix_9, ix_15, ix_21, ix_29, ix_37, ix_45, ix_53, ix_59, ix_65, ix_71, ix_77, ix_83, ix_325, al_0, al_1, al_2, al_3, al_4, al_5, al_6, al_7, al_8, ald_nI, Option.bind_some, bnd_eq, bd_some, chk_7, cl_7, ans_eq, e7]
  refine ⟨_, _, _, rfl, rfl, ?_⟩
  have ta := h.ta
  obtain ⟨⟨t1, t2⟩, ⟨t3, t4⟩, t5, t6⟩ := ta
  have u8 : upd (gI σM 12 0 5) 7 0 8 = gI σM 12 0 5 8 := rfl
  show Rel _ (sIf (mS σM) 12 0 5 (upd (gI (mS σM) 12 0 5) 7 0))
  rw [mS_c]
  refine h.tal (FC.sI FC.z (by decide)) (fun b hb => by simp [TY, gI_sI, hb]) FM.z (fun j hj => if_neg (by omega)) ⟨⟨?_, ?_⟩, ⟨?_, by rw [u8]; exact t4⟩, fun k hk => ?_, fun k hk => ?_⟩
  · simp [TY, gI_sI, upd_eq]
  · simp only [TY]; rw [rI_n (by decide), u8]; exact t2
  · show (0 : Int32) ≤ 0 ∧ (0 : Int32) ≤ 20
    decide
  · rw [show upd (gI σM 12 0 5) 7 0 (77 + k) = gI σM 12 0 5 (77 + k) from if_neg (by omega)]
    simp only [TY]; rw [rI_c (by decide)]; exact t5 k hk
  · rw [u8] at hk
    rw [show upd (gI σM 12 0 5) 7 0 (83 + 4 * k) = gI σM 12 0 5 (83 + 4 * k) from if_neg (by omega), show upd (gI σM 12 0 5) 7 0 (84 + 4 * k) = gI σM 12 0 5 (84 + 4 * k) from if_neg (by omega), show upd (gI σM 12 0 5) 7 0 (85 + 4 * k) = gI σM 12 0 5 (85 + 4 * k) from if_neg (by omega), show upd (gI σM 12 0 5) 7 0 (86 + 4 * k) = gI σM 12 0 5 (86 + 4 * k) from if_neg (by omega)]
    simp only [TY]; rw [rI_c (by decide), rI_c (by decide), rI_c (by decide), rI_c (by decide)]; exact t6 k hk
end SHV
