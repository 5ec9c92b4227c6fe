/-! PURE. What the calls share; calls that only tell. -/
theorem wi_0 {x b : Int32} : F12_isIn x.toInt64 0 b.toInt64 = F11_within x 0 b := isIn_within (a := 0)
theorem wi_1 {x b : Int32} : F12_isIn x.toInt64 1 b.toInt64 = F11_within x 1 b := isIn_within (a := 1)
theorem wi_0_8 {x : Int32} : F12_isIn x.toInt64 0 8 = F11_within x 0 8 := isIn_within (a := 0) (b := 8)
theorem wi_0_20 {x : Int32} : F12_isIn x.toInt64 0 20 = F11_within x 0 20 := isIn_within (a := 0) (b := 20)
theorem wi_0_3 {x : Int32} : F12_isIn x.toInt64 0 3 = F11_within x 0 3 := isIn_within (a := 0) (b := 3)
theorem wi_m60_60 {x : Int32} : F12_isIn x.toInt64 (-60) 60 = F11_within x (-60) 60 := isIn_within (a := (-60)) (b := 60)
theorem wi_m1_1 {x : Int32} : F12_isIn x.toInt64 (-1) 1 = F11_within x (-1) 1 := isIn_within (a := (-1)) (b := 1)
theorem wi_0_1 {x : Int32} : F12_isIn x.toInt64 0 1 = F11_within x 0 1 := isIn_within (a := 0) (b := 1)
theorem wi_m999_999 {x : Int32} : F12_isIn x.toInt64 (-999) 999 = F11_within x (-999) 999 := isIn_within (a := (-999)) (b := 999)
theorem wi_1_20 {x : Int32} : F12_isIn x.toInt64 1 20 = F11_within x 1 20 := isIn_within (a := 1) (b := 20)
theorem wi_1_30 {x : Int32} : F12_isIn x.toInt64 1 30 = F11_within x 1 30 := isIn_within (a := 1) (b := 30)
theorem wi_0_99 {x : Int32} : F12_isIn x.toInt64 0 99 = F11_within x 0 99 := isIn_within (a := 0) (b := 99)
theorem wi_1_5 {x : Int32} : F12_isIn x.toInt64 1 5 = F11_within x 1 5 := isIn_within (a := 1) (b := 5)
theorem wi_0_2 {x : Int32} : F12_isIn x.toInt64 0 2 = F11_within x 0 2 := isIn_within (a := 0) (b := 2)
theorem wi_m99_99 {x : Int32} : F12_isIn x.toInt64 (-99) 99 = F11_within x (-99) 99 := isIn_within (a := (-99)) (b := 99)
theorem wi_1_12 {x : Int32} : F12_isIn x.toInt64 1 12 = F11_within x 1 12 := isIn_within (a := 1) (b := 12)
theorem wi_m6_6 {x : Int32} : F12_isIn x.toInt64 (-6) 6 = F11_within x (-6) 6 := isIn_within (a := (-6)) (b := 6)
theorem wi_0_9999 {x : Int32} : F12_isIn x.toInt64 0 9999 = F11_within x 0 9999 := isIn_within (a := 0) (b := 9999)
theorem wi_0_4 {x : Int32} : F12_isIn x.toInt64 0 4 = F11_within x 0 4 := isIn_within (a := 0) (b := 4)
theorem wi_1_40 {x : Int32} : F12_isIn x.toInt64 1 40 = F11_within x 1 40 := isIn_within (a := 1) (b := 40)
theorem isPuffing_w {x m : Int32} : F12_isPuffing x m = F11_within x 1 m := wi_1
theorem isSpit_w {x : Int32} : F12_isSpit x = F11_within x 0 20 := wi_0_20
theorem isAim_w {x y : Int32} : F12_isAim x y = (F11_within x (-60) 60 && F11_within y (-60) 60) := by
  unfold F12_isAim
  rw [wi_m60_60, wi_m60_60]
  cases F11_within x (-60) 60 <;> cases F11_within y (-60) 60 <;> rfl
theorem isPlace_w {x y : Int32} : F12_isPlace x y = (F11_within x (-999) 999 && F11_within y (-999) 999) := by
  unfold F12_isPlace
  rw [wi_m999_999, wi_m999_999]
  cases F11_within x (-999) 999 <;> cases F11_within y (-999) 999 <;> rfl
theorem wn_int {x a b : Int32} (h : F11_within x a b = true) : a.toInt ≤ x.toInt ∧ x.toInt ≤ b.toInt := b32 (within_iff.mp h)
theorem in_rng {x n : Int32} (hn : 0 ≤ n.toInt ∧ n.toInt ≤ 1000) (h : F11_within x 0 (n - 1) = true) : ∃ k, k < nat n ∧ x = nI k := by
  have h1 := wn_int h
  have e1 : (1 : Int32).toInt = 1 := rfl
  have e0 : (0 : Int32).toInt = 0 := rfl
  rw [e0, i32_sub (by rw [e1]; omega) (by rw [e1]; omega), e1] at h1
  obtain ⟨k, h2, h3⟩ := i32_ex (x := x) 1000 (by omega) (by omega)
  refine ⟨k, ?_, h3⟩
  have h4 := nI_int (n := k) (by omega)
  rw [← h3] at h4
  have h5 := nat_i n
  omega
theorem n4_int {c : Nat → Int32} (o : TentOk c) : 0 ≤ (c 4).toInt ∧ (c 4).toInt ≤ 1000 := by
  obtain ⟨-, -, -, -, h, -⟩ := o
  have := b32 h; have : (6 : Int32).toInt = 6 := rfl; have : (0 : Int32).toInt = 0 := rfl; omega
theorem n5_int {c : Nat → Int32} (o : TentOk c) : 0 ≤ (c 5).toInt ∧ (c 5).toInt ≤ 1000 := by
  obtain ⟨-, -, -, -, -, h, -⟩ := o
  have := b32 h; have : (8 : Int32).toInt = 8 := rfl; have : (0 : Int32).toInt = 0 := rfl; omega
theorem n6_int {c : Nat → Int32} (o : TentOk c) : 0 ≤ (c 6).toInt ∧ (c 6).toInt ≤ 1000 := by
  obtain ⟨-, -, -, -, -, -, h, -⟩ := o
  have := b32 h; have : (6 : Int32).toInt = 6 := rfl; have : (0 : Int32).toInt = 0 := rfl; omega
/-- what a model's call leaves, all that is kept aside -/
abbrev FMS (σ σ' : Mem) : Prop := FM [28, 29, 30, 31, 33, 34] [35, 36, 40, 41, 42, 43, 44, 45] [8, 9, 10, 11] σ σ'
def PCS (σ σ' : Mem) : Prop := PC σ' = PC σ ∧ gL σ' 11 0 0 = gL σ 11 0 0
theorem PCS.z {σ : Mem} : PCS σ σ := ⟨rfl, rfl⟩
theorem FC.pcs {σ σ' : Mem} (h : FC [0, 1, 2, 6] σ σ') : PCS σ σ' := ⟨h.pc1, h.fL 11 0 0 (by decide)⟩
theorem bnd_mS {γ : Type} {σ : Mem} (K : Mem → γ) : (bnd (sI σ 12 0 0 1 0) fun s_1 => bnd (sI s_1 12 0 0 0 0) fun s_2 => K s_2) = K (mS σ) := rfl
theorem mS_c {σ : Mem} : gI (mS σ) 12 0 5 = gI σ 12 0 5 := by simp (disch := decide) only [rI_c]
section REL
variable {σC σM σC1 σM1 : Mem}
theorem FMS.pm {σ σ' : Mem} (g : FMS σ σ') : PM σ' = PM σ := FM.pm g (by decide) (by decide)
theorem Rel.fin (h : Rel σC σM) (f : PCS σC σC1) (g : FMS (mS σM) σM1) : PC σC1 = PC σC ∧ PM σM1 = PM σM ∧ gL σC1 11 0 0 1 = gL σM1 12 0 0 2 ∧ gL σC1 11 0 0 2 = gL σM1 12 0 0 3 ∧ gI σM1 12 0 0 0 = 0 := by
  refine ⟨f.1, (FMS.pm g).trans PM_mS, ?_, ?_, ?_⟩
  · rw [f.2, h.2.2.1, g.2.1 2 (by decide)]; rfl
  · rw [f.2, h.2.2.2, g.2.1 3 (by decide)]; rfl
  · rw [g.1 0 (by decide)]; simp (disch := decide) only [rI_s]
theorem Rel.ans (h : Rel σC σM) (f : PCS σC σC1) (g : FMS (mS σM) σM1) : Rel (cS σC1 0) σM1 := by
  obtain ⟨h1, h2, h3, h4, h5⟩ := h.fin f g
  exact h.q (PC_st.trans h1) h2 (by rw [h5]; exact rI_s) h3 h4
theorem Rel.ref (h : Rel σC σM) (f : PCS σC σC1) (g : FMS (mS σM) σM1) (v : Int32) : Rel (cS σC1 v) (sI σM1 12 0 0 0 v) := by
  obtain ⟨h1, h2, h3, h4, h5⟩ := h.fin f g
  exact h.q (PC_st.trans h1) ((PM_I (by decide)).trans h2) (by rw [rI_s, rI_s]) h3 h4
theorem Rel.tel (h : Rel σC σM) (f : PCS σC σC1) (g : FMS (mS σM) σM1) (T B : Int64) : Rel (cS (sL (sL σC1 11 0 0 1 T) 11 0 0 2 B) 0) (sL (sL σM1 12 0 0 2 T) 12 0 0 3 B) := by
  obtain ⟨h1, h2, h3, h4, h5⟩ := h.fin f g
  refine h.q ((PC_st.trans PC_L11).trans (PC_L11.trans h1)) ((PM_L0.trans PM_L0).trans h2) ?_ ?_ ?_
  · rw [rI_s, gI_sL, gI_sL, h5]
  · simp (disch := decide) only [rI_s, rI_n, rI_f, rI_a, rI_c, rL_s, rL_n, rL_f, rL_a, rL_c, rB_s, rB_n, rB_a, rR_s, rR_n, gI_sL, gI_sB, gI_sR, gL_sI, gL_sB, gL_sR, gB_sI, gB_sL, gB_sR, gR_sI, gR_sL, gR_sB]
  · simp (disch := decide) only [rI_s, rI_n, rI_f, rI_a, rI_c, rL_s, rL_n, rL_f, rL_a, rL_c, rB_s, rB_n, rB_a, rR_s, rR_n, gI_sL, gI_sB, gI_sR, gL_sI, gL_sB, gL_sR, gB_sI, gB_sL, gB_sR, gR_sI, gR_sL, gR_sB]
theorem Rel.ok5 (h : Rel σC σM) : TentOk (gI σM 12 0 5) := h.tentOk
theorem Rel.tt (h : Rel σC σM) : TentT (gI σC 9 (gR σC 11 0 0 5)) (gI σM 12 0 5) := h.tent.T
theorem Rel.t0 (h : Rel σC σM) : gI σC 9 (gR σC 11 0 0 5) 0 0 = gI σM 12 0 5 0 := h.tent.1
theorem Rel.sp (h : Rel σC σM) : gI σC 7 0 0 0 = gI σM 12 0 5 7 ∧ 0 ≤ (gI σM 12 0 5 7).toInt ∧ (gI σM 12 0 5 7).toInt ≤ 20 := by
  obtain ⟨⟨h1, -⟩, ⟨h2, -⟩, -⟩ := h.tally
  exact ⟨h1, b32 h2⟩
theorem c_isPea (h : Rel σC σM) (x : Int32) : F11_isPea σC x = some (F11_within x 0 (gI σM 12 0 5 5 - 1)) := by
  unfold F11_isPea
  rw [gd_at h.t5, h.tt.1.2.2.2.2.1]
theorem c_isShooter (h : Rel σC σM) (x : Int32) : F11_isShooter σC x = some (F11_within x 0 (gI σM 12 0 5 6 - 1)) := by
  unfold F11_isShooter
  rw [gd_at h.t5, h.tt.1.2.2.2.2.2]
theorem m_isPea {σ : Mem} (x : Int32) : F12_isPeaAt σ x = some (F11_within x 0 (gI σ 12 0 5 5 - 1)) := by
  unfold F12_isPeaAt
  rw [al_5, Option.bind_some, wi_0]
theorem m_isShooter {σ : Mem} (x : Int32) : F12_isShooterAt σ x = some (F11_within x 0 (gI σ 12 0 5 6 - 1)) := by
  unfold F12_isShooterAt
  rw [al_6, Option.bind_some, wi_0]
theorem wn_01 {y : Int32} (h0 : ¬ y = 0) (h1 : ¬ y = 1) : ¬ F11_within y 0 1 = true := fun h => by
  have h2 := wn_int h
  have e1 : (1 : Int32).toInt = 1 := rfl
  have e0 : (0 : Int32).toInt = 0 := rfl
  rw [i32_eq] at h0 h1; omega
theorem wn_45 {y : Int32} : F11_within y 4 5 = true ↔ y = 4 ∨ y = 5 := by
  rw [within_iff, i32_le, i32_le, i32_eq, i32_eq]
  have e1 : (4 : Int32).toInt = 4 := rfl
  have e0 : (5 : Int32).toInt = 5 := rfl
  omega
theorem st_ring (h : Rel σC σM) (x y : Int32) : Stq (F11_ring σC x y) (F12_ring σM x y) := by
  have o := h.ok5
  have ht := h.tt
  have h4 := ok_n4 o
  unfold F11_ring F12_ring
  rw [bnd_mS]
  simp only [gd_at h.t5, ht.1.2.2.2.1, mS_c, ix_9, ix_15, ix_21, ix_29, ix_37, ix_45, ix_53, ix_59, ix_65, ix_71, ix_77, ix_83, ix_325, al_0, al_1, al_2, al_3, al_4, al_5, al_6, al_7, al_8, ald_nI, Option.bind_some, bnd_eq, bd_some, wi_0]
  by_cases hp : F11_within x 0 (gI σM 12 0 5 4 - 1) = true
  · obtain ⟨k, hk, rfl⟩ := in_rng (n4_int o) hp
    simp only [hp, if_true]
    by_cases e0 : y = 0
    · subst e0
      have hw : F11_within 0 0 1 = true := by decide
      simp (disch := omega) only [hw, if_true, ix_9, ix_15, ix_21, ix_29, ix_37, ix_45, ix_53, ix_59, ix_65, ix_71, ix_77, ix_83, ix_325, al_0, al_1, al_2, al_3, al_4, al_5, al_6, al_7, al_8, ald_nI, Option.bind_some, bnd_eq, bd_some, ans_eq]
      exact ⟨_, _, _, rfl, by rw [(ht.2.1 k hk).1], h.ok⟩
    by_cases e1 : y = 1
    · subst e1
      have hw : F11_within 1 0 1 = true := by decide
      have hn : ¬ (1 : Int32) = 0 := by decide
      simp (disch := omega) only [hw, hn, if_true, if_false, ix_9, ix_15, ix_21, ix_29, ix_37, ix_45, ix_53, ix_59, ix_65, ix_71, ix_77, ix_83, ix_325, al_0, al_1, al_2, al_3, al_4, al_5, al_6, al_7, al_8, ald_nI, Option.bind_some, bnd_eq, bd_some, ans_eq]
      exact ⟨_, _, _, rfl, by rw [(ht.2.1 k hk).2], h.ok⟩
    simp only [wn_01 e0 e1, e0, e1, if_false, ref_eq, mref_eq, bd_some, Bool.false_eq_true]
    exact ⟨_, _, _, rfl, rfl, h.no 5⟩
  · simp only [hp, if_false, ref_eq, mref_eq, bd_some, Bool.false_eq_true]
    exact ⟨_, _, _, rfl, rfl, h.no 2⟩
theorem st_pea (h : Rel σC σM) (x y : Int32) : Stq (F11_pea σC x y) (F12_pea σM x y) := by
  have o := h.ok5
  have ht := h.tt
  have h5 := ok_n5 o
  unfold F11_pea F12_pea
  rw [bnd_mS, c_isPea h, m_isPea, mS_c]
  simp only [Option.bind_some]
  by_cases hp : F11_within x 0 (gI σM 12 0 5 5 - 1) = true
  · obtain ⟨k, hk, rfl⟩ := in_rng (n5_int o) hp
    obtain ⟨q1, q2, q3, q4⟩ := ht.2.2.1 k hk
    have hf := c_fit ht o hk
    have hm : F12_fitOf (mS σM) (nI k) = some (sFit (gI σM 12 0 5) k) := by rw [m_fit (by omega), mS_c]
    have hr := c_rattles ht o hk
    simp only [hp, if_true]
    by_cases e0 : y = 0
    · subst e0
      have hw : ¬ F11_within 0 4 5 = true := by decide
      simp (disch := omega) only [hw, if_true, if_false, F11_pea_p41, gd_at h.t5, ix_9, ix_15, ix_21, ix_29, ix_37, ix_45, ix_53, ix_59, ix_65, ix_71, ix_77, ix_83, ix_325, al_0, al_1, al_2, al_3, al_4, al_5, al_6, al_7, al_8, ald_nI, Option.bind_some, bnd_eq, bd_some, ans_eq, mS_c, q1]
      exact ⟨_, _, _, rfl, rfl, h.ok⟩
    by_cases e1 : y = 1
    · subst e1
      have hw : ¬ F11_within 1 4 5 = true := by decide
      have n0 : ¬ (1 : Int32) = 0 := by decide
      simp (disch := omega) only [hw, n0, if_true, if_false, F11_pea_p41, gd_at h.t5, ix_9, ix_15, ix_21, ix_29, ix_37, ix_45, ix_53, ix_59, ix_65, ix_71, ix_77, ix_83, ix_325, al_0, al_1, al_2, al_3, al_4, al_5, al_6, al_7, al_8, ald_nI, Option.bind_some, bnd_eq, bd_some, ans_eq, mS_c, q2]
      exact ⟨_, _, _, rfl, rfl, h.ok⟩
    by_cases e2 : y = 2
    · subst e2
      have hw : ¬ F11_within 2 4 5 = true := by decide
      have n0 : ¬ (2 : Int32) = 0 := by decide
      have n1 : ¬ (2 : Int32) = 1 := by decide
      simp (disch := omega) only [hw, n0, n1, if_true, if_false, F11_pea_p41, gd_at h.t5, ix_9, ix_15, ix_21, ix_29, ix_37, ix_45, ix_53, ix_59, ix_65, ix_71, ix_77, ix_83, ix_325, al_0, al_1, al_2, al_3, al_4, al_5, al_6, al_7, al_8, ald_nI, Option.bind_some, bnd_eq, bd_some, ans_eq, mS_c, q3]
      exact ⟨_, _, _, rfl, rfl, h.ok⟩
    by_cases e3 : y = 3
    · subst e3
      have hw : ¬ F11_within 3 4 5 = true := by decide
      have n0 : ¬ (3 : Int32) = 0 := by decide
      have n1 : ¬ (3 : Int32) = 1 := by decide
      have n2 : ¬ (3 : Int32) = 2 := by decide
      simp (disch := omega) only [hw, n0, n1, n2, if_true, if_false, F11_pea_p41, gd_at h.t5, ix_9, ix_15, ix_21, ix_29, ix_37, ix_45, ix_53, ix_59, ix_65, ix_71, ix_77, ix_83, ix_325, al_0, al_1, al_2, al_3, al_4, al_5, al_6, al_7, al_8, ald_nI, Option.bind_some, bnd_eq, bd_some, ans_eq, mS_c, q4]
      exact ⟨_, _, _, rfl, rfl, h.ok⟩
    by_cases e4 : y = 4
    · subst e4
      have hw : F11_within 4 4 5 = true := by decide
      have n0 : ¬ (4 : Int32) = 0 := by decide
      have n1 : ¬ (4 : Int32) = 1 := by decide
      have n2 : ¬ (4 : Int32) = 2 := by decide
      have n3 : ¬ (4 : Int32) = 3 := by decide
      simp only [hw, n0, n1, n2, n3, if_true, if_false, F11_pea_p41, gd_at h.t5, hf, hm, Option.bind_some, ans_eq, ref_eq, mref_eq, bd_some]
      by_cases hg : 0 ≤ sFit (gI σM 12 0 5) k
      · simp only [hg, if_true]
        exact ⟨_, _, _, rfl, rfl, h.ok⟩
      · simp only [hg, if_false]
        exact ⟨_, _, _, rfl, rfl, h.no 9⟩
    by_cases e5 : y = 5
    · subst e5
      have hw : F11_within 5 4 5 = true := by decide
      have n0 : ¬ (5 : Int32) = 0 := by decide
      have n1 : ¬ (5 : Int32) = 1 := by decide
      have n2 : ¬ (5 : Int32) = 2 := by decide
      have n3 : ¬ (5 : Int32) = 3 := by decide
      have n4 : ¬ (5 : Int32) = 4 := by decide
      simp only [hw, n0, n1, n2, n3, n4, if_true, if_false, F11_pea_p41, gd_at h.t5, hf, hm, hr, Option.bind_some, ans_eq, ref_eq, mref_eq, bd_some]
      by_cases hg : 0 ≤ sFit (gI σM 12 0 5) k
      · simp only [hg, if_true]
        by_cases h2 : sFit (gI σM 12 0 5) k ≤ 2
        · simp only [h2, not_true_eq_false, decide_false, Bool.false_eq_true, if_true, if_false]
          exact ⟨_, _, _, rfl, rfl, h.ok⟩
        · simp only [h2, not_false_eq_true, decide_true, if_true, if_false]
          exact ⟨_, _, _, rfl, rfl, h.ok⟩
      · simp only [hg, if_false]
        exact ⟨_, _, _, rfl, rfl, h.no 9⟩
    have hw : ¬ F11_within y 4 5 = true := fun e => (wn_45.mp e).elim e4 e5
    simp only [hw, e0, e1, e2, e3, e4, e5, if_false, F11_pea_p41, ref_eq, mref_eq, bd_some, Bool.false_eq_true]
    exact ⟨_, _, _, rfl, rfl, h.no 5⟩
  · simp only [hp, if_false, ref_eq, mref_eq, bd_some, Bool.false_eq_true]
    exact ⟨_, _, _, rfl, rfl, h.no 2⟩
theorem st_points (h : Rel σC σM) (x y : Int32) : Stq (F11_points σC x y) (F12_points σM x y) := by
  have o := h.ok5
  unfold F11_points F12_points
  rw [bnd_mS]
  simp only [gd_at h.t5, c_pts h.tt o, m_pts (σ := mS σM) (by rw [mS_c]; exact o), mS_c, wi_0, wi_1, isPuffing_w, isSpit_w, isAim_w, isPlace_w, wi_0_8, wi_0_20, wi_0_3, wi_m60_60, wi_m1_1, wi_0_1, wi_m999_999, wi_1_20, wi_1_30, wi_0_99, wi_1_5, wi_0_2, wi_m99_99, wi_1_12, wi_m6_6, wi_0_9999, wi_0_4, wi_1_40, Option.bind_some, ans_eq, ref_eq, mref_eq, bd_some]
  by_cases h1 : F11_within x (-999) 999 = true
  · by_cases h2 : F11_within y (-999) 999 = true
    · simp only [h1, h2, if_true, Bool.and_self]
      exact ⟨_, _, _, rfl, rfl, h.ok⟩
    · simp only [h1, h2, if_true, if_false, Bool.and_false, Bool.true_and, Bool.false_eq_true]
      exact ⟨_, _, _, rfl, rfl, h.no 5⟩
  · simp only [h1, if_false, Bool.false_and, Bool.false_eq_true]
    exact ⟨_, _, _, rfl, rfl, h.no 5⟩
theorem st_ringAt (h : Rel σC σM) (x y : Int32) : Stq (F11_ringAt σC x y) (F12_ringAt σM x y) := by
  have o := h.ok5
  have h4 := ok_n4 o
  unfold F11_ringAt F12_ringAt
  rw [bnd_mS]
  simp only [gd_at h.t5, c_ring h.tt o, m_ring (σ := mS σM) (by rw [mS_c]; exact o), mS_c, wi_0, wi_1, isPuffing_w, isSpit_w, isAim_w, isPlace_w, wi_0_8, wi_0_20, wi_0_3, wi_m60_60, wi_m1_1, wi_0_1, wi_m999_999, wi_1_20, wi_1_30, wi_0_99, wi_1_5, wi_0_2, wi_m99_99, wi_1_12, wi_m6_6, wi_0_9999, wi_0_4, wi_1_40, Option.bind_some, ans_eq, ref_eq, mref_eq, bd_some]
  by_cases h1 : F11_within x (-999) 999 = true
  · by_cases h2 : F11_within y (-999) 999 = true
    · simp only [h1, h2, if_true, Bool.and_self]
      rcases sRing_lt (c := gI σM 12 0 5) (q := x * x + y * y) (nat (gI σM 12 0 5 4)) with h3 | ⟨k, h3, h5⟩
      · have e : sRingAt (gI σM 12 0 5) x y = -1 := h3
        have hn : ¬ (0 : Int32) ≤ -1 := by decide
        simp only [e, hn, if_true, if_false]
        exact ⟨_, _, _, rfl, rfl, h.no 8⟩
      · have e : sRingAt (gI σM 12 0 5) x y = nI k := h5
        have hk : ¬ nI k = -1 := fun e => by have := nI_pos' (n := k) (by omega); rw [e] at this; exact absurd this (by decide)
        have hk0 : 0 ≤ nI k := nI_pos' (by omega)
        simp only [e, hk, hk0, if_true, if_false]
        exact ⟨_, _, _, rfl, rfl, h.ok⟩
    · simp only [h1, h2, if_true, if_false, Bool.and_false, Bool.true_and, Bool.false_eq_true]
      exact ⟨_, _, _, rfl, rfl, h.no 5⟩
  · simp only [h1, if_false, Bool.false_and, Bool.false_eq_true]
    exact ⟨_, _, _, rfl, rfl, h.no 5⟩
theorem st_hand (h : Rel σC σM) (x y : Int32) : Stq (F11_hand σC x y) (F12_hand σM x y) := by
  have o := h.ok5
  unfold F11_hand F12_hand
  rw [bnd_mS, c_isShooter h, m_isShooter, mS_c]
  simp only [Option.bind_some, wi_0, wi_1, isPuffing_w, isSpit_w, isAim_w, isPlace_w, wi_0_8, wi_0_20, wi_0_3, wi_m60_60, wi_m1_1, wi_0_1, wi_m999_999, wi_1_20, wi_1_30, wi_0_99, wi_1_5, wi_0_2, wi_m99_99, wi_1_12, wi_m6_6, wi_0_9999, wi_0_4, wi_1_40]
  by_cases hp : F11_within x 0 (gI σM 12 0 5 6 - 1) = true
  · obtain ⟨k, hk, rfl⟩ := in_rng (n6_int o) hp
    have hm : F12_handOf (mS σM) (nI k) y = some (sHand (gI σM 12 0 5) k y) := by rw [m_hand (by rw [mS_c]; exact o) (by rw [mS_c]; exact hk), mS_c]
    simp only [hp, if_true, gd_at h.t5, c_hand h.tt o hk, hm, Option.bind_some, ans_eq, ref_eq, mref_eq, bd_some]
    by_cases h2 : F11_within y 0 3 = true
    · simp only [h2, if_true]
      exact ⟨_, _, _, rfl, rfl, h.ok⟩
    · simp only [h2, if_false, Bool.false_eq_true]
      exact ⟨_, _, _, rfl, rfl, h.no 5⟩
  · simp only [hp, if_false, ref_eq, mref_eq, bd_some, Bool.false_eq_true]
    exact ⟨_, _, _, rfl, rfl, h.no 2⟩
end REL
