/-! PURE. The best puff, beat, pea, length. -/
section BEST2
variable {σC σM σ σm : Mem} {p s : Nat}
theorem step_all (h : Rel σC σM) {any : Bool} {best w puff beat x y : Int32} (f : FC [0, 1, 2, 6] σC σ) (g : FMS (mS σM) σm) (b : BestR any σ σm best) (hs : s < nat (gI σM 12 0 5 6)) (hp : p < nat (gI σM 12 0 5 5)) (hf : 1 ≤ puff.toInt ∧ puff.toInt ≤ 40)
    (hx : -60 ≤ x.toInt ∧ x.toInt ≤ 60) (hy : -60 ≤ y.toInt ∧ y.toInt ≤ 60) :
    ∃ σ1 σ2 σm1 σm' bt, F11_takeShot σ (nI s) (nI p) puff beat x y = some ((), σ1) ∧ F11_offerMean σ1 w = some ((), σ2) ∧ FC [0, 1, 2, 6] σC σ2 ∧ F12_counts σm (nI s) (nI p) puff beat x y (gI σM 12 0 5 7) = some ((), σm1) ∧
      F12_isBetter σm1 = some (bt, σm') ∧ FMS (mS σM) σm' ∧ BestR true σ2 σm' (if bt = true then w else best) := by
  obtain ⟨σ1, k1, k2, k3⟩ := c_takeZ h f s p puff beat x y
  have f1 : FC [0, 1, 2, 6] σC σ1 := f.t k2.w6
  have hc : gI σm 12 0 5 = gI σM 12 0 5 := (FM.c g (by decide)).trans mS_c
  obtain ⟨σ2, σm1, σm', bt, r1, r2, r3, r4, r5, r6⟩ := best_step (σ := σ1) (σm := σm) (w := w) (b.fc k2 (by decide) (FM.z (i := []) (q := []))) ⟨h.ok5, hs, hp, h.sp.2, hf⟩ ⟨hx, hy⟩ (h.tt.fc f1 (by decide)) (h.fct f1 (by decide)) h.t5 k3 hc
  exact ⟨σ1, σ2, σm1, σm', bt, k1, r1, f1.t (r2.m (by decide)), r3, r4, FM.t g (r5.m (by decide) (by decide) (by decide)), r6⟩
theorem Rel.begin (h : Rel σC σM) (best : Int32) : ∃ σ σm, F1_begin σC = some ((), σ) ∧ F12_noBest (mS σM) = some ((), σm) ∧ FC [0, 1, 2, 6] σC σ ∧ FMS (mS σM) σm ∧ BestR false σ σm best := by
  obtain ⟨σ, h1, h2, h3⟩ := c_begin (σ := σC)
  obtain ⟨σm, k1, k2, k3, k4⟩ := m_noBest (σ := mS σM)
  exact ⟨σ, σm, h1, k1, h2.m (by decide), k2.m (by decide) (by decide) (by decide), .inl ⟨rfl, h3, k3, k4⟩⟩
theorem BestR.an {a b : Bool} {best : Int32} (h : BestR a σ σm best) (e : a = b) : BestR b σ σm best := e ▸ h
theorem bestPuff_L (h : Rel σC σM) {beat x y : Int32} (hs : s < nat (gI σM 12 0 5 6)) (hp : p < nat (gI σM 12 0 5 5)) (hx : -60 ≤ x.toInt ∧ x.toInt ≤ 60) (hy : -60 ≤ y.toInt ∧ y.toInt ≤ 60) (f : FC [0, 1, 2, 6] σC σ) (g : FMS (mS σM) σm) (b : BestR false σ σm 1) :
    ∃ (r : Unit × Mem) (q : Int32 × Mem), F11_bestPuff_L36 (nI s) (nI p) beat x y fuelK σ 1 = some r ∧ F12_bestPuff_L63 (nI s) (nI p) beat x y fuelK σm 1 1 = some q ∧ FC [0, 1, 2, 6] σC r.2 ∧ FMS (mS σM) q.2 ∧ BestR true r.2 q.2 q.1 := by
  have hh := ok_sh h.ok5 hs
  have h6 := ok_n6 h.ok5
  have eH : gI σM 12 0 5 (53 + s) = nI (nat (gI σM 12 0 5 (53 + s))) := nI_of32 (i32_le.mpr (by show (0 : Int) ≤ _; omega))
  have hH : 1 ≤ nat (gI σM 12 0 5 (53 + s)) ∧ nat (gI σM 12 0 5 (53 + s)) ≤ 40 := by have := nat_i (gI σM 12 0 5 (53 + s)); omega
  generalize hHn : nat (gI σM 12 0 5 (53 + s)) = H at *
  refine loop2 (L1 := fun n (w : Mem × Int32) => F11_bestPuff_L36 (nI s) (nI p) beat x y n w.1 w.2) (L2 := fun n (w : Mem × Int32 × Int32) => F12_bestPuff_L63 (nI s) (nI p) beat x y n w.1 w.2.1 w.2.2) (N := H + 1)
    (Inv := fun i w v => w.2 = nI i ∧ v.2.2 = nI i ∧ 1 ≤ i ∧ FC [0, 1, 2, 6] σC w.1 ∧ FMS (mS σM) v.1 ∧ BestR (decide (1 < i)) w.1 v.1 v.2.1) ?_ H fuelK fuelK 1 (σ, 1) (σm, 1, 1) (by omega) (fuelK_lt (by omega)) (fuelK_lt (by omega)) ⟨rfl, rfl, by omega, f, g, b⟩
  rintro n m i ⟨σ1, x7⟩ ⟨σm1, x6, x7m⟩ hi ⟨e1, e2, e3, f1, g1, b1⟩
  simp only at e1 e2 f1 g1 b1
  subst e1; subst e2
  have hc : gI σm1 12 0 5 = gI σM 12 0 5 := (FM.c g1 (by decide)).trans mS_c
  have et := h.fct f1 (by decide)
  have e9 : gI σ1 9 (gR σC 11 0 0 5) 9 s = nI H := by rw [f1.fI 9 _ 9 (by decide), (h.tt.2.2.2 s hs).1, eH]
  simp only [F11_bestPuff_L36.eq_2, F12_bestPuff_L63.eq_2]
  simp (disch := omega) only [et, gd_at h.t5, hc, ix_9, ix_15, ix_21, ix_29, ix_37, ix_45, ix_53, ix_59, ix_65, ix_71, ix_77, ix_83, ix_325, al_0, al_1, al_2, al_3, al_4, al_5, al_6, al_7, al_8, ald_nI, Option.bind_some, bnd_eq, bd_some, e9, eH]
  by_cases e : i = H + 1
  · subst e
    have hlt : nI H < nI (H + 1) := nI_lt (by omega) (by omega)
    rw [if_pos hlt, if_pos hlt]
    exact .inl ⟨_, _, rfl, rfl, f1, g1, b1.an (by simp; omega)⟩
  · refine .inr ⟨by omega, ?_⟩
    have hlt : ¬ nI H < nI i := nI_nlt (by omega) (by omega)
    rw [if_neg hlt, if_neg hlt]
    have hpf : 1 ≤ (nI i).toInt ∧ (nI i).toInt ≤ 40 := by rw [nI_int (by omega)]; omega
    obtain ⟨τ1, τ2, τ3, τ4, bt, k1, k2, k3, k4, k5, k6, k7⟩ := step_all (w := nI i) (beat := beat) h f1 g1 b1 hs hp hpf hx hy
    rw [k1, bd_some, k2, bd_some, k4, bd_some, k5, bd_some, nI_1]
    refine ⟨(τ2, nI (i + 1)), (τ4, (if bt = true then nI i else x6), nI (i + 1)), rfl, ?_, rfl, rfl, by omega, k3, k6, k7.an (by simp; omega)⟩
    cases bt <;> rfl
theorem st_bestPuff (h : Rel σC σM) (x1 x2 x3 x4 x5 : Int32) : Stq (F11_bestPuff σC x1 x2 x3 x4 x5) (F12_bestPuff σM x1 x2 x3 x4 x5) := by
  have o := h.ok5
  have h6 := ok_n6 o
  unfold F11_bestPuff F12_bestPuff
  rw [bnd_mS, m_isShot, mS_c]
  simp only [Option.bind_some, wi_0, wi_1, isPuffing_w, isSpit_w, isAim_w, isPlace_w, wi_0_8, wi_0_20, wi_0_3, wi_m60_60, wi_m1_1, wi_0_1, wi_m999_999, wi_1_20, wi_1_30, wi_0_99, wi_1_5, wi_0_2, wi_m99_99, wi_1_12, wi_m6_6, wi_0_9999, wi_0_4, wi_1_40]
  by_cases hs : ¬ F11_within x1 0 (gI σM 12 0 5 6 - 1) = true
  · rw [ws_s h _ _ _ _ _ hs]
    simp only [hs, if_false, Bool.false_and, Bool.and_false, Bool.true_and, Bool.and_true, Bool.false_eq_true, if_true, Bool.and_self, ans_eq, ref_eq, agr_eq, den_eq, mref_eq, mno_eq, bd_some, Option.bind_some, ne_2_0, ne_5_0]
    exact ⟨_, _, _, rfl, rfl, h.no 2⟩
  replace hs := Decidable.not_not.mp hs
  by_cases hp : ¬ F11_within x2 0 (gI σM 12 0 5 5 - 1) = true
  · rw [ws_p h _ _ _ _ hs hp]
    simp only [hp, if_false, Bool.false_and, Bool.and_false, Bool.true_and, Bool.and_true, Bool.false_eq_true, if_true, Bool.and_self, ans_eq, ref_eq, agr_eq, den_eq, mref_eq, mno_eq, bd_some, Option.bind_some, ne_2_0, ne_5_0]
    exact ⟨_, _, _, rfl, rfl, h.no 2⟩
  replace hp := Decidable.not_not.mp hp
  obtain ⟨k, hk, rfl⟩ := in_rng (n5_int o) hp
  obtain ⟨s, hk6, rfl⟩ := in_rng (n6_int o) hs
  have hh := ok_sh o hk6
  have hw1 : F11_within 1 1 (gI σM 12 0 5 (53 + s)) = true := within_iff.mpr ⟨Int32.le_refl _, i32_le.mpr (by show (1 : Int) ≤ _; omega)⟩
  rw [ws_in h 1 x3 x4 x5 hk6 hs hp]
  simp (disch := omega) only [hs, hp, hw1, if_true, Bool.and_self, Bool.true_and]
  by_cases g1 : ¬ F11_within x3 0 3 = true
  · simp only [g1, if_false, Bool.false_and, Bool.and_false, Bool.true_and, Bool.and_true, Bool.false_eq_true, if_true, Bool.and_self, ans_eq, ref_eq, agr_eq, den_eq, mref_eq, mno_eq, bd_some, Option.bind_some, ne_2_0, ne_5_0]
    exact ⟨_, _, _, rfl, rfl, h.no 5⟩
  replace g1 := Decidable.not_not.mp g1
  by_cases g2 : ¬ F11_within x4 (-60) 60 = true
  · simp only [g1, g2, if_false, Bool.false_and, Bool.and_false, Bool.true_and, Bool.and_true, Bool.false_eq_true, if_true, Bool.and_self, ans_eq, ref_eq, agr_eq, den_eq, mref_eq, mno_eq, bd_some, Option.bind_some, ne_2_0, ne_5_0]
    exact ⟨_, _, _, rfl, rfl, h.no 5⟩
  replace g2 := Decidable.not_not.mp g2
  by_cases g3 : ¬ F11_within x5 (-60) 60 = true
  · simp only [g1, g2, g3, if_false, Bool.false_and, Bool.and_false, Bool.true_and, Bool.and_true, Bool.false_eq_true, if_true, Bool.and_self, ans_eq, ref_eq, agr_eq, den_eq, mref_eq, mno_eq, bd_some, Option.bind_some, ne_2_0, ne_5_0]
    exact ⟨_, _, _, rfl, rfl, h.no 5⟩
  replace g3 := Decidable.not_not.mp g3
  obtain ⟨σ1, σ2, a1, a2, a3, a4, a5⟩ := h.begin 1
  obtain ⟨⟨u, σ3⟩, ⟨best, σ4⟩, l1, l2, l3, l4, l5⟩ := bestPuff_L (beat := x3) h hk6 hk (aim_ok g2) (aim_ok g3) a3 a4 a5
  obtain ⟨σ5, σ6, z1, z2, z3⟩ := best_end h l5 l3 l4
  simp only [g1, g2, g3, a1, a2, l1, l2, z1, z2, if_false, Bool.false_and, Bool.and_false, Bool.true_and, Bool.and_true, Bool.false_eq_true, if_true, Bool.and_self, ans_eq, ref_eq, agr_eq, den_eq, mref_eq, mno_eq, bd_some, Option.bind_some, ne_2_0, ne_5_0]
  exact ⟨_, _, _, rfl, rfl, z3⟩
theorem bestBeat_L (h : Rel σC σM) {puff x y : Int32} (hs : s < nat (gI σM 12 0 5 6)) (hp : p < nat (gI σM 12 0 5 5)) (hpf : 1 ≤ puff.toInt ∧ puff.toInt ≤ 40) (hx : -60 ≤ x.toInt ∧ x.toInt ≤ 60) (hy : -60 ≤ y.toInt ∧ y.toInt ≤ 60) (f : FC [0, 1, 2, 6] σC σ) (g : FMS (mS σM) σm) (b : BestR false σ σm 0) :
    ∃ (r : Unit × Mem) (q : Int32 × Mem), F11_bestBeat_L36 (nI s) (nI p) puff x y fuelK σ 0 = some r ∧ F12_bestBeat_L67 (nI s) (nI p) puff x y fuelK σm 0 0 = some q ∧ FC [0, 1, 2, 6] σC r.2 ∧ FMS (mS σM) q.2 ∧ BestR true r.2 q.2 q.1 := by
  refine loop2 (L1 := fun n (w : Mem × Int32) => F11_bestBeat_L36 (nI s) (nI p) puff x y n w.1 w.2) (L2 := fun n (w : Mem × Int32 × Int32) => F12_bestBeat_L67 (nI s) (nI p) puff x y n w.1 w.2.1 w.2.2) (N := 4)
    (Inv := fun i w v => w.2 = nI i ∧ v.2.2 = nI i ∧ FC [0, 1, 2, 6] σC w.1 ∧ FMS (mS σM) v.1 ∧ BestR (decide (0 < i)) w.1 v.1 v.2.1) ?_ 4 fuelK fuelK 0 (σ, 0) (σm, 0, 0) (by omega) (fuelK_lt (by omega)) (fuelK_lt (by omega)) ⟨rfl, rfl, f, g, b⟩
  rintro n m i ⟨σ1, x7⟩ ⟨σm1, x6, x7m⟩ hi ⟨e1, e2, f1, g1, b1⟩
  simp only at e1 e2 f1 g1 b1
  subst e1; subst e2
  have hc : gI σm1 12 0 5 = gI σM 12 0 5 := (FM.c g1 (by decide)).trans mS_c
  simp only [F11_bestBeat_L36.eq_2, F12_bestBeat_L67.eq_2]
  simp (disch := omega) only [hc, ix_9, ix_15, ix_21, ix_29, ix_37, ix_45, ix_53, ix_59, ix_65, ix_71, ix_77, ix_83, ix_325, al_0, al_1, al_2, al_3, al_4, al_5, al_6, al_7, al_8, ald_nI, Option.bind_some, bnd_eq, bd_some]
  by_cases e : i = 4
  · subst e
    rw [if_pos (show (3 : Int32) < nI 4 by decide), if_pos (show (4 : Int32) ≤ nI 4 by decide)]
    exact .inl ⟨_, _, rfl, rfl, f1, g1, b1.an (by simp)⟩
  · refine .inr ⟨by omega, ?_⟩
    rw [if_neg (show ¬ (3 : Int32) < nI i from nI_nlt (b := i) (a := 3) (by omega) (by omega)), if_neg (show ¬ (4 : Int32) ≤ nI i from nI_ge (a := i) (b := 4) (by omega) (by omega))]
    obtain ⟨τ1, τ2, τ3, τ4, bt, k1, k2, k3, k4, k5, k6, k7⟩ := step_all (w := nI i) (beat := nI i) h f1 g1 b1 hs hp hpf hx hy
    rw [k1, bd_some, k2, bd_some, k4, bd_some, k5, bd_some, nI_1]
    refine ⟨(τ2, nI (i + 1)), (τ4, (if bt = true then nI i else x6), nI (i + 1)), rfl, ?_, rfl, rfl, k3, k6, k7.an (by simp)⟩
    cases bt <;> rfl
theorem st_bestBeat (h : Rel σC σM) (x1 x2 x3 x4 x5 : Int32) : Stq (F11_bestBeat σC x1 x2 x3 x4 x5) (F12_bestBeat σM x1 x2 x3 x4 x5) := by
  have o := h.ok5
  have h6 := ok_n6 o
  unfold F11_bestBeat F12_bestBeat
  rw [bnd_mS, m_isShot, mS_c]
  simp only [Option.bind_some, wi_0, wi_1, isPuffing_w, isSpit_w, isAim_w, isPlace_w, wi_0_8, wi_0_20, wi_0_3, wi_m60_60, wi_m1_1, wi_0_1, wi_m999_999, wi_1_20, wi_1_30, wi_0_99, wi_1_5, wi_0_2, wi_m99_99, wi_1_12, wi_m6_6, wi_0_9999, wi_0_4, wi_1_40]
  by_cases hs : ¬ F11_within x1 0 (gI σM 12 0 5 6 - 1) = true
  · rw [ws_s h _ _ _ _ _ hs]
    simp only [hs, if_false, Bool.false_and, Bool.and_false, Bool.true_and, Bool.and_true, Bool.false_eq_true, if_true, Bool.and_self, ans_eq, ref_eq, agr_eq, den_eq, mref_eq, mno_eq, bd_some, Option.bind_some, ne_2_0, ne_5_0]
    exact ⟨_, _, _, rfl, rfl, h.no 2⟩
  replace hs := Decidable.not_not.mp hs
  by_cases hp : ¬ F11_within x2 0 (gI σM 12 0 5 5 - 1) = true
  · rw [ws_p h _ _ _ _ hs hp]
    simp only [hp, if_false, Bool.false_and, Bool.and_false, Bool.true_and, Bool.and_true, Bool.false_eq_true, if_true, Bool.and_self, ans_eq, ref_eq, agr_eq, den_eq, mref_eq, mno_eq, bd_some, Option.bind_some, ne_2_0, ne_5_0]
    exact ⟨_, _, _, rfl, rfl, h.no 2⟩
  replace hp := Decidable.not_not.mp hp
  obtain ⟨k, hk, rfl⟩ := in_rng (n5_int o) hp
  obtain ⟨s, hk6, rfl⟩ := in_rng (n6_int o) hs
  rw [ws_in h x3 0 x4 x5 hk6 hs hp]
  simp (disch := omega) only [hs, hp, wn_003, mS_c, ix_9, ix_15, ix_21, ix_29, ix_37, ix_45, ix_53, ix_59, ix_65, ix_71, ix_77, ix_83, ix_325, al_0, al_1, al_2, al_3, al_4, al_5, al_6, al_7, al_8, ald_nI, Option.bind_some, bnd_eq, bd_some, if_true, Bool.and_self, Bool.true_and]
  by_cases g1 : ¬ F11_within x3 1 (gI σM 12 0 5 (53 + s)) = true
  · simp only [g1, if_false, Bool.false_and, Bool.and_false, Bool.true_and, Bool.and_true, Bool.false_eq_true, if_true, Bool.and_self, ans_eq, ref_eq, agr_eq, den_eq, mref_eq, mno_eq, bd_some, Option.bind_some, ne_2_0, ne_5_0]
    exact ⟨_, _, _, rfl, rfl, h.no 5⟩
  replace g1 := Decidable.not_not.mp g1
  by_cases g2 : ¬ F11_within x4 (-60) 60 = true
  · simp only [g1, g2, if_false, Bool.false_and, Bool.and_false, Bool.true_and, Bool.and_true, Bool.false_eq_true, if_true, Bool.and_self, ans_eq, ref_eq, agr_eq, den_eq, mref_eq, mno_eq, bd_some, Option.bind_some, ne_2_0, ne_5_0]
    exact ⟨_, _, _, rfl, rfl, h.no 5⟩
  replace g2 := Decidable.not_not.mp g2
  by_cases g3 : ¬ F11_within x5 (-60) 60 = true
  · simp only [g1, g2, g3, if_false, Bool.false_and, Bool.and_false, Bool.true_and, Bool.and_true, Bool.false_eq_true, if_true, Bool.and_self, ans_eq, ref_eq, agr_eq, den_eq, mref_eq, mno_eq, bd_some, Option.bind_some, ne_2_0, ne_5_0]
    exact ⟨_, _, _, rfl, rfl, h.no 5⟩
  replace g3 := Decidable.not_not.mp g3
  obtain ⟨σ1, σ2, a1, a2, a3, a4, a5⟩ := h.begin 0
  obtain ⟨⟨u, σ3⟩, ⟨best, σ4⟩, l1, l2, l3, l4, l5⟩ := bestBeat_L h hk6 hk (puff_ok o hk6 g1) (aim_ok g2) (aim_ok g3) a3 a4 a5
  obtain ⟨σ5, σ6, z1, z2, z3⟩ := best_end h l5 l3 l4
  simp only [g1, g2, g3, a1, a2, l1, l2, z1, z2, if_false, Bool.false_and, Bool.and_false, Bool.true_and, Bool.and_true, Bool.false_eq_true, if_true, Bool.and_self, ans_eq, ref_eq, agr_eq, den_eq, mref_eq, mno_eq, bd_some, Option.bind_some, ne_2_0, ne_5_0]
  exact ⟨_, _, _, rfl, rfl, z3⟩
theorem bestPea_L (h : Rel σC σM) {puff beat : Int32} (hs : s < nat (gI σM 12 0 5 6)) (h0 : 0 < nat (gI σM 12 0 5 5)) (hpf : 1 ≤ puff.toInt ∧ puff.toInt ≤ 40) (f : FC [0, 1, 2, 6] σC σ) (g : FMS (mS σM) σm) (b : BestR false σ σm 0) :
    ∃ (r : Unit × Mem) (q : Int32 × Mem), F11_bestPea_L73 (nI s) puff beat fuelK σ 0 = some r ∧ F12_bestPea_L84 (nI s) puff beat fuelK σm 0 0 = some q ∧ FC [0, 1, 2, 6] σC r.2 ∧ FMS (mS σM) q.2 ∧ BestR true r.2 q.2 q.1 := by
  have e5 := ok_i5 h.ok5
  have h8 := ok_n5 h.ok5
  have hx : -60 ≤ (0 : Int32).toInt ∧ (0 : Int32).toInt ≤ 60 := by decide
  refine loop2 (L1 := fun n (w : Mem × Int32) => F11_bestPea_L73 (nI s) puff beat n w.1 w.2) (L2 := fun n (w : Mem × Int32 × Int32) => F12_bestPea_L84 (nI s) puff beat n w.1 w.2.1 w.2.2) (N := nat (gI σM 12 0 5 5))
    (Inv := fun i w v => w.2 = nI i ∧ v.2.2 = nI i ∧ FC [0, 1, 2, 6] σC w.1 ∧ FMS (mS σM) v.1 ∧ BestR (decide (0 < i)) w.1 v.1 v.2.1) ?_ (nat (gI σM 12 0 5 5)) fuelK fuelK 0 (σ, 0) (σm, 0, 0) (by omega) (fuelK_lt (by omega)) (fuelK_lt (by omega)) ⟨rfl, rfl, f, g, b⟩
  rintro n m i ⟨σ1, x7⟩ ⟨σm1, x6, x7m⟩ hi ⟨e1, e2, f1, g1, b1⟩
  simp only at e1 e2 f1 g1 b1
  subst e1; subst e2
  have hc : gI σm1 12 0 5 = gI σM 12 0 5 := (FM.c g1 (by decide)).trans mS_c
  have et := h.fct f1 (by decide)
  have e7 : gI σ1 9 (gR σC 11 0 0 5) 0 7 = gI σM 12 0 5 5 := by rw [f1.fI 9 _ 0 (by decide), h.tt.1.2.2.2.2.1]
  simp only [F11_bestPea_L73.eq_2, F12_bestPea_L84.eq_2]
  simp (disch := omega) only [et, gd_at h.t5, hc, ix_9, ix_15, ix_21, ix_29, ix_37, ix_45, ix_53, ix_59, ix_65, ix_71, ix_77, ix_83, ix_325, al_0, al_1, al_2, al_3, al_4, al_5, al_6, al_7, al_8, ald_nI, Option.bind_some, bnd_eq, bd_some, e7]
  by_cases e : i = nat (gI σM 12 0 5 5)
  · subst e
    have hle : gI σM 12 0 5 5 ≤ nI (nat (gI σM 12 0 5 5)) := by rw [← e5]; exact Int32.le_refl _
    rw [if_pos hle, if_pos hle]
    exact .inl ⟨_, _, rfl, rfl, f1, g1, b1.an (decide_eq_true h0)⟩
  · refine .inr ⟨by omega, ?_⟩
    have hle : ¬ gI σM 12 0 5 5 ≤ nI i := by rw [e5]; exact nI_ge (by omega) (by omega)
    rw [if_neg hle, if_neg hle]
    obtain ⟨τ1, τ2, τ3, τ4, bt, k1, k2, k3, k4, k5, k6, k7⟩ := step_all (p := i) (w := nI i) (beat := beat) h f1 g1 b1 hs (by omega) hpf hx hx
    rw [k1, bd_some, k2, bd_some, k4, bd_some, k5, bd_some, nI_1]
    refine ⟨(τ2, nI (i + 1)), (τ4, (if bt = true then nI i else x6), nI (i + 1)), rfl, ?_, rfl, rfl, k3, k6, k7.an (by simp)⟩
    cases bt <;> rfl
theorem st_bestPea (h : Rel σC σM) (x1 x2 x3 : Int32) : Stq (F11_bestPea σC x1 x2 x3) (F12_bestPea σM x1 x2 x3) := by
  have o := h.ok5
  have h6 := ok_n6 o
  have e5 := ok_i5 o
  have h8 := ok_n5 o
  unfold F11_bestPea F12_bestPea
  rw [bnd_mS, m_isShooter, mS_c, c_isShooter h]
  simp only [Option.bind_some, wi_0, wi_1, isPuffing_w, isSpit_w, isAim_w, isPlace_w, wi_0_8, wi_0_20, wi_0_3, wi_m60_60, wi_m1_1, wi_0_1, wi_m999_999, wi_1_20, wi_1_30, wi_0_99, wi_1_5, wi_0_2, wi_m99_99, wi_1_12, wi_m6_6, wi_0_9999, wi_0_4, wi_1_40]
  by_cases hs : ¬ F11_within x1 0 (gI σM 12 0 5 6 - 1) = true
  · simp only [hs, if_false, Bool.false_and, Bool.and_false, Bool.true_and, Bool.and_true, Bool.false_eq_true, if_true, Bool.and_self, ans_eq, ref_eq, agr_eq, den_eq, mref_eq, mno_eq, bd_some, Option.bind_some, ne_2_0, ne_5_0]
    exact ⟨_, _, _, rfl, rfl, h.no 2⟩
  replace hs := Decidable.not_not.mp hs
  obtain ⟨s, hk6, rfl⟩ := in_rng (n6_int o) hs
  simp (disch := omega) only [hs, gd_at h.t5, mS_c, ix_9, ix_15, ix_21, ix_29, ix_37, ix_45, ix_53, ix_59, ix_65, ix_71, ix_77, ix_83, ix_325, al_0, al_1, al_2, al_3, al_4, al_5, al_6, al_7, al_8, ald_nI, Option.bind_some, bnd_eq, bd_some, if_true, (h.tt.2.2.2 s hk6).1, h.tt.1.2.2.2.2.1]
  by_cases g1 : ¬ F11_within x2 1 (gI σM 12 0 5 (53 + s)) = true
  · simp only [g1, if_false, Bool.false_and, Bool.and_false, Bool.true_and, Bool.and_true, Bool.false_eq_true, if_true, Bool.and_self, ans_eq, ref_eq, agr_eq, den_eq, mref_eq, mno_eq, bd_some, Option.bind_some, ne_2_0, ne_5_0]
    exact ⟨_, _, _, rfl, rfl, h.no 5⟩
  replace g1 := Decidable.not_not.mp g1
  by_cases g2 : ¬ F11_within x3 0 3 = true
  · simp only [g1, g2, if_false, Bool.false_and, Bool.and_false, Bool.true_and, Bool.and_true, Bool.false_eq_true, if_true, Bool.and_self, ans_eq, ref_eq, agr_eq, den_eq, mref_eq, mno_eq, bd_some, Option.bind_some, ne_2_0, ne_5_0]
    exact ⟨_, _, _, rfl, rfl, h.no 5⟩
  replace g2 := Decidable.not_not.mp g2
  by_cases g3 : gI σM 12 0 5 5 = 0
  · simp only [g1, g2, g3, if_false, Bool.false_and, Bool.and_false, Bool.true_and, Bool.and_true, Bool.false_eq_true, if_true, Bool.and_self, ans_eq, ref_eq, agr_eq, den_eq, mref_eq, mno_eq, bd_some, Option.bind_some, ne_2_0, ne_5_0]
    exact ⟨_, _, _, rfl, rfl, h.no 8⟩
  have h0 : 0 < nat (gI σM 12 0 5 5) := by
    rcases Nat.eq_zero_or_pos (nat (gI σM 12 0 5 5)) with e | e
    · exact absurd (by rw [e5, e]; rfl) g3
    · exact e
  obtain ⟨σ1, σ2, a1, a2, a3, a4, a5⟩ := h.begin 0
  obtain ⟨⟨u, σ3⟩, ⟨best, σ4⟩, l1, l2, l3, l4, l5⟩ := bestPea_L (beat := x3) h hk6 h0 (puff_ok o hk6 g1) a3 a4 a5
  obtain ⟨σ5, σ6, z1, z2, z3⟩ := best_end h l5 l3 l4
  simp only [g1, g2, g3, a1, a2, l1, l2, z1, z2, if_false, Bool.false_and, Bool.and_false, Bool.true_and, Bool.and_true, Bool.false_eq_true, if_true, Bool.and_self, ans_eq, ref_eq, agr_eq, den_eq, mref_eq, mno_eq, bd_some, Option.bind_some, ne_2_0, ne_5_0]
  exact ⟨_, _, _, rfl, rfl, z3⟩
theorem u0 {c : Nat → Int32} {v : Int32} {j : Nat} (h : 0 < j) : upd c 0 v j = c j := if_neg (by omega)
theorem u00 {c : Nat → Int32} {v : Int32} : upd c 0 v 0 = v := if_pos rfl
theorem TentOk.u {c : Nat → Int32} (o : TentOk c) {v : Int32} (hv : 12 ≤ v ∧ v ≤ 48) : TentOk (upd c 0 v) := by
  unfold TentOk at *
  simp (disch := omega) only [u0, u00]
  exact ⟨hv, o.2⟩
theorem TentT.u {ti : VI} {c : Nat → Int32} (o : TentT ti c) (v : Int32) : TentT ti (upd c 0 v) := by
  unfold TentT at *
  simp (disch := omega) only [u0]
  exact o
/-- as the model is, but for the length of the tube -/
def FML (σ0 σ : Mem) : Prop := FM [28, 29, 30, 31, 33, 34] [35, 36] [5, 8] σ0 σ ∧ (∃ v, gI σ 12 0 5 = upd (gI σ0 12 0 5) 0 v) ∧ gL σ 12 0 5 = gL σ0 12 0 5
theorem FML.back {σ0 : Mem} (h : FML σ0 σ) (e : gI σ 12 0 5 = gI σ0 12 0 5) : FMS σ0 σ := by
  have hh : FM [28, 29, 30, 31, 33, 34] [35, 36, 40, 41, 42, 43, 44, 45] [5, 8, 9, 10, 11] σ0 σ := h.1.m (by decide) (by decide) (by decide)
  refine ⟨hh.1, hh.2.1, hh.2.2.1, fun q hq h0 => ?_⟩
  by_cases e5 : q = 5
  · subst e5; exact ⟨e, h.2.2⟩
  · exact hh.2.2.2 q (fun e2 => (List.mem_cons.mp e2).elim e5 hq) h0
theorem FML.step {σ0 σ1 : Mem} (h : FML σ0 σ) (g : FM [28, 29, 30, 31, 33, 34] [35, 36] [8] σ σ1) : FML σ0 σ1 :=
  ⟨h.1.t (g.m (by decide) (by decide) (by decide)), by rw [g.c (by decide)]; exact h.2.1, by rw [(g.2.2.2 5 (by decide) (by decide)).2]; exact h.2.2⟩
theorem FML.put {σ0 : Mem} (h : FML σ0 σ) (v : Int32) : FML σ0 (sI σ 12 0 5 0 v) ∧ gI (sI σ 12 0 5 0 v) 12 0 5 = upd (gI σ0 12 0 5) 0 v := by
  obtain ⟨h1, ⟨w, h2⟩, h3⟩ := h
  have e : gI (sI σ 12 0 5 0 v) 12 0 5 = upd (gI σ0 12 0 5) 0 v := by
    rw [rI_f, h2]; funext j; simp only [upd_eq]; split <;> rfl
  exact ⟨⟨FM.sP h1 (by decide) (by decide), ⟨v, e⟩, by rw [gL_sI]; exact h3⟩, e⟩
theorem longest_L (h : Rel σC σM) {puff beat x y was : Int32} (hs : s < nat (gI σM 12 0 5 6)) (hp : p < nat (gI σM 12 0 5 5)) (hpf : 1 ≤ puff.toInt ∧ puff.toInt ≤ 40) (hx : -60 ≤ x.toInt ∧ x.toInt ≤ 60) (hy : -60 ≤ y.toInt ∧ y.toInt ≤ 60) (f : FC [0, 1, 2, 6] σC σ) (g : FML (mS σM) σm) (b : BestR false σ σm 12) :
    ∃ (r : Unit × Mem) (q : Int32 × Mem), F11_longest_L38 (nI s) (nI p) puff beat x y fuelK σ 12 = some r ∧ F12_longest_L90 (nI s) (nI p) puff beat x y was fuelK σm 12 12 = some q ∧ FC [0, 1, 2, 6] σC r.2 ∧ FML (mS σM) q.2 ∧ BestR true r.2 q.2 q.1 := by
  refine loop2 (L1 := fun n (w : Mem × Int32) => F11_longest_L38 (nI s) (nI p) puff beat x y n w.1 w.2) (L2 := fun n (w : Mem × Int32 × Int32) => F12_longest_L90 (nI s) (nI p) puff beat x y was n w.1 w.2.1 w.2.2) (N := 49)
    (Inv := fun i w v => w.2 = nI i ∧ v.2.2 = nI i ∧ 12 ≤ i ∧ FC [0, 1, 2, 6] σC w.1 ∧ FML (mS σM) v.1 ∧ BestR (decide (12 < i)) w.1 v.1 v.2.1) ?_ 37 fuelK fuelK 12 (σ, 12) (σm, 12, 12) (by omega) (fuelK_lt (by omega)) (fuelK_lt (by omega)) ⟨rfl, rfl, by omega, f, g, b⟩
  rintro n m i ⟨σ1, x7⟩ ⟨σm1, x6, x7m⟩ hi ⟨e1, e2, e3, f1, g1, b1⟩
  simp only at e1 e2 f1 g1 b1
  subst e1; subst e2
  simp only [F11_longest_L38.eq_2, F12_longest_L90.eq_2]
  by_cases e : i = 49
  · subst e
    rw [if_pos (show (48 : Int32) < nI 49 by decide), if_pos (show (48 : Int32) < nI 49 by decide)]
    exact .inl ⟨_, _, rfl, rfl, f1, g1, b1.an (by simp)⟩
  · refine .inr ⟨by omega, ?_⟩
    have hlt : ¬ (48 : Int32) < nI i := nI_nlt (b := i) (a := 48) (by omega) (by omega)
    rw [if_neg hlt, if_neg hlt, show (0 : Int32) = nI 0 from rfl, chk_nI (by omega) (by omega), cl_nI (by omega)]
    obtain ⟨g2, g3⟩ := g1.put (nI i)
    rw [mS_c] at g3
    have hv : 12 ≤ nI i ∧ nI i ≤ 48 := ⟨nI_le (a := 12) (b := i) (by omega) (by omega), nI_le (a := i) (b := 48) (by omega) (by omega)⟩
    have hc7 : gI (sI σm1 12 0 5 0 (nI i)) 12 0 5 7 = gI σM 12 0 5 7 := by rw [g3]; exact u0 (by omega)
    obtain ⟨τ1, k1, k2, k3⟩ := c_takeZ h f1 s p puff beat x y
    have f2 : FC [6] σ1 (sI τ1 6 0 0 7 (nI i)) := FC.sI k2 (by decide)
    have f3 : FC [0, 1, 2, 6] σC (sI τ1 6 0 0 7 (nI i)) := f1.t f2.w6
    have hz : ShotZ (sI τ1 6 0 0 7 (nI i)) (upd (gI σM 12 0 5) 0 (nI i), s, p, puff, beat, x, y, gI σM 12 0 5 7) := by
      obtain ⟨z0, z1, z2, z3, z4, z5, z6, -⟩ := k3
      refine ⟨?_, ?_, ?_, ?_, ?_, ?_, ?_, ?_⟩
      all_goals simp (disch := decide) only [rI_s, rI_n, rI_f, rI_a, rI_c, rL_s, rL_n, rL_f, rL_a, rL_c, rB_s, rB_n, rB_a, rR_s, rR_n, gI_sL, gI_sB, gI_sR, gL_sI, gL_sB, gL_sR, gB_sI, gB_sL, gB_sR, gR_sI, gR_sL, gR_sB]
      · exact z0
      · exact z1
      · exact z2
      · exact z3
      · exact z4
      · exact z5
      · exact z6
      · exact u00.symm
    obtain ⟨τ2, τ3, τ4, bt, r1, r2, r3, r4, r5, r6⟩ := best_step (σ := sI τ1 6 0 0 7 (nI i)) (σm := sI σm1 12 0 5 0 (nI i)) (z := (upd (gI σM 12 0 5) 0 (nI i), s, p, puff, beat, x, y, gI σM 12 0 5 7)) (w := nI i)
      (b1.fc f2 (by decide) (FM.PI (i := []) (l := []) (q := [5]) (by decide) (by decide))) ⟨h.ok5.u hv, by simp only [u0 (show 0 < 6 by omega)]; exact hs, by simp only [u0 (show 0 < 5 by omega)]; exact hp, h.sp.2, hpf⟩ ⟨hx, hy⟩ ((h.tt.fc f3 (by decide)).u _) (h.fct f3 (by decide)) h.t5 hz g3
    simp only at r3
    rw [k1, bd_some, bnd_eq, r1, bd_some, bnd_eq, al_7, hc7, Option.bind_some, r3, bd_some, r4, bd_some, nI_1]
    refine ⟨(τ2, nI (i + 1)), (τ4, (if bt = true then nI i else x6), nI (i + 1)), rfl, ?_, rfl, rfl, by omega, f3.t (r2.m (by decide)), g2.step r5, r6.an (by simp; omega)⟩
    cases bt <;> rfl
theorem st_longest (h : Rel σC σM) (x1 x2 x3 x4 x5 x6 : Int32) : Stq (F11_longest σC x1 x2 x3 x4 x5 x6) (F12_longest σM x1 x2 x3 x4 x5 x6) := by
  have o := h.ok5
  have h6 := ok_n6 o
  unfold F11_longest F12_longest
  rw [bnd_mS, m_isShot, mS_c]
  simp only [Option.bind_some, wi_0, wi_1, isPuffing_w, isSpit_w, isAim_w, isPlace_w, wi_0_8, wi_0_20, wi_0_3, wi_m60_60, wi_m1_1, wi_0_1, wi_m999_999, wi_1_20, wi_1_30, wi_0_99, wi_1_5, wi_0_2, wi_m99_99, wi_1_12, wi_m6_6, wi_0_9999, wi_0_4, wi_1_40]
  by_cases hs : ¬ F11_within x1 0 (gI σM 12 0 5 6 - 1) = true
  · rw [ws_s h _ _ _ _ _ hs]
    simp only [hs, if_false, Bool.false_and, Bool.and_false, Bool.true_and, Bool.and_true, Bool.false_eq_true, if_true, Bool.and_self, ans_eq, ref_eq, agr_eq, den_eq, mref_eq, mno_eq, bd_some, Option.bind_some, ne_2_0, ne_5_0]
    exact ⟨_, _, _, rfl, rfl, h.no 2⟩
  replace hs := Decidable.not_not.mp hs
  by_cases hp : ¬ F11_within x2 0 (gI σM 12 0 5 5 - 1) = true
  · rw [ws_p h _ _ _ _ hs hp]
    simp only [hp, if_false, Bool.false_and, Bool.and_false, Bool.true_and, Bool.and_true, Bool.false_eq_true, if_true, Bool.and_self, ans_eq, ref_eq, agr_eq, den_eq, mref_eq, mno_eq, bd_some, Option.bind_some, ne_2_0, ne_5_0]
    exact ⟨_, _, _, rfl, rfl, h.no 2⟩
  replace hp := Decidable.not_not.mp hp
  obtain ⟨k, hk, rfl⟩ := in_rng (n5_int o) hp
  obtain ⟨s, hk6, rfl⟩ := in_rng (n6_int o) hs
  rw [ws_in h x3 x4 x5 x6 hk6 hs hp]
  simp (disch := omega) only [hs, hp, mS_c, ix_9, ix_15, ix_21, ix_29, ix_37, ix_45, ix_53, ix_59, ix_65, ix_71, ix_77, ix_83, ix_325, al_0, al_1, al_2, al_3, al_4, al_5, al_6, al_7, al_8, ald_nI, Option.bind_some, bnd_eq, bd_some, if_true, Bool.and_self, Bool.true_and]
  by_cases g1 : ¬ F11_within x3 1 (gI σM 12 0 5 (53 + s)) = true
  · simp only [g1, if_false, Bool.false_and, Bool.and_false, Bool.true_and, Bool.and_true, Bool.false_eq_true, if_true, Bool.and_self, ans_eq, ref_eq, agr_eq, den_eq, mref_eq, mno_eq, bd_some, Option.bind_some, ne_2_0, ne_5_0]
    exact ⟨_, _, _, rfl, rfl, h.no 5⟩
  replace g1 := Decidable.not_not.mp g1
  by_cases g2 : ¬ F11_within x4 0 3 = true
  · simp only [g1, g2, if_false, Bool.false_and, Bool.and_false, Bool.true_and, Bool.and_true, Bool.false_eq_true, if_true, Bool.and_self, ans_eq, ref_eq, agr_eq, den_eq, mref_eq, mno_eq, bd_some, Option.bind_some, ne_2_0, ne_5_0]
    exact ⟨_, _, _, rfl, rfl, h.no 5⟩
  replace g2 := Decidable.not_not.mp g2
  by_cases g3 : ¬ F11_within x5 (-60) 60 = true
  · simp only [g1, g2, g3, if_false, Bool.false_and, Bool.and_false, Bool.true_and, Bool.and_true, Bool.false_eq_true, if_true, Bool.and_self, ans_eq, ref_eq, agr_eq, den_eq, mref_eq, mno_eq, bd_some, Option.bind_some, ne_2_0, ne_5_0]
    exact ⟨_, _, _, rfl, rfl, h.no 5⟩
  replace g3 := Decidable.not_not.mp g3
  by_cases g4 : ¬ F11_within x6 (-60) 60 = true
  · simp only [g1, g2, g3, g4, if_false, Bool.false_and, Bool.and_false, Bool.true_and, Bool.and_true, Bool.false_eq_true, if_true, Bool.and_self, ans_eq, ref_eq, agr_eq, den_eq, mref_eq, mno_eq, bd_some, Option.bind_some, ne_2_0, ne_5_0]
    exact ⟨_, _, _, rfl, rfl, h.no 5⟩
  replace g4 := Decidable.not_not.mp g4
  obtain ⟨σ1, σ2, a1, a2, a3, a4, a5⟩ := h.begin 12
  have c2 : gI σ2 12 0 5 = gI σM 12 0 5 := (FM.c a4 (by decide)).trans mS_c
  obtain ⟨nb, n1, n2, -, -⟩ := m_noBest (σ := mS σM)
  have en : nb = σ2 := by
    have := n1.symm.trans a2
    injection this with this
    injection this
  subst en
  have fl : FML (mS σM) nb := by
    refine ⟨n2.m (by decide) (by decide) (by decide), ⟨gI σM 12 0 5 0, ?_⟩, (n2.2.2.2 5 (by decide) (by decide)).2⟩
    rw [c2, mS_c]; funext j; simp only [upd_eq]; split
    · rename_i e; rw [e]
    · rfl
  obtain ⟨⟨u, σ3⟩, ⟨best, σ4⟩, l1, l2, l3, l4, l5⟩ := longest_L (beat := x4) (was := gI σM 12 0 5 0) h hk6 hk (puff_ok o hk6 g1) (aim_ok g3) (aim_ok g4) a3 fl a5
  obtain ⟨p1, p2⟩ := l4.put (gI σM 12 0 5 0)
  have p3 : gI (sI σ4 12 0 5 0 (gI σM 12 0 5 0)) 12 0 5 = gI (mS σM) 12 0 5 := by
    rw [p2, mS_c]; funext j; simp only [upd_eq]; split
    · rename_i e; rw [e]
    · rfl
  obtain ⟨σ5, σ6, z1, z2, z3⟩ := best_end (σm := sI σ4 12 0 5 0 (gI σM 12 0 5 0)) h (l5.fc FC.z (show 1 ∉ [] by decide) (FM.PI (i := []) (l := []) (q := [5]) (by decide) (by decide))) l3 (p1.back p3)
  simp only [g1, g2, g3, g4, a1, a2, c2, al_0, l1, l2, z1, if_false, Bool.false_and, Bool.and_false, Bool.true_and, Bool.and_true, Bool.false_eq_true, if_true, Bool.and_self, ans_eq, ref_eq, agr_eq, den_eq, mref_eq, mno_eq, bd_some, Option.bind_some, ne_2_0, ne_5_0]
  rw [show (0 : Int32) = nI 0 from rfl, chk_nI (by omega) (by omega), cl_nI (by omega), z2, bd_some]
  exact ⟨_, _, _, rfl, rfl, z3⟩
end BEST2
