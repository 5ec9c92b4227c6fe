/-! PURE. tray, write, read, pour, feed. -/
section TRA
variable {σC σM σC1 σM1 σ τ : Mem}
/-- trays and tape changed, all else as it was -/
theorem RelP.io (h : RelP σC σM) (f : FC [8, 10] σC σC1) (g : FM [0, 1, 8] [] [1, 2, 3, 4] σM σM1) (nT : TraysR σC1 σM1) (nP : TapeR σC1 σM1) (nm : gL σC1 8 0 2 = gL σC 8 0 2) : RelP σC1 σM1 := by
  obtain ⟨-, ⟨-, r2'⟩, r3, r4, ⟨r5, r6, r7, r8⟩, r9⟩ := h
  have g9 : ∀ t, gI σC1 9 t = gI σC 9 t := fun t => by funext b'; exact f.fI 9 t b' (by decide)
  have l9 : ∀ t, gL σC1 9 t = gL σC 9 t := fun t => by funext b'; exact f.fL 9 t b' (by decide)
  have g5 : ∀ t, gI σC1 5 t = gI σC 5 t := fun t => by funext b'; exact f.fI 5 t b' (by decide)
  have q5 : ∀ t, gB σC1 5 t = gB σC 5 t := fun t => by funext b'; exact f.fB 5 t b' (by decide)
  have ty : ∀ b, TY σC1 b = TY σC b := fun b => by simp only [TY, f.fI 7 b _ (show 7 ∉ [8, 10] by decide)]
  have hb : ∀ o, blkM σM1 o = blkM σM o := fun o => blkM_congr (g.2.2.2 5 (by decide) (by decide)).1 o
  have hw : ∀ o, blkW σM1 o = blkW σM o := fun o => blkW_congr (g.2.2.2 7 (by decide) (by decide)).2 o
  refine ⟨nT, ⟨nP, by rw [nm]; exact r2'⟩, by rw [f.fR 11 0 0 (by decide)]; exact r3, ?_, ⟨by rw [f.fI 11 0 0 (by decide), g.1 23 (by decide)]; exact r5, by rw [g.1 23 (by decide)]; exact r6, by rw [g.1 23 (by decide)]; exact r7, fun i hi => ?_⟩, ?_⟩
  · rw [f.fR 11 0 0 (by decide)]
    unfold BlockR at r4 ⊢
    rw [g9, l9, g5, q5, ty, hb, hw]; exact r4
  · rw [g.1 23 (by decide)] at hi
    have := r8 i hi
    unfold BlockR at this ⊢
    rw [g9, l9, g5, q5, ty, hb, hw]; exact this
  · rw [f.fB 4 0 0 (by decide), f.fI 4 0 0 (by decide), (g.2.2.2 12 (by decide) (by decide)).1, g.2.2.1]; exact r9
theorem Rel.st (h : Rel σC σM) (v : Int32) : Rel (cS σC v) (sI (sI σM 12 0 0 1 0) 12 0 0 0 v) := h.q PC_st ((PM_I (by decide)).trans (PM_I (by decide))) (by rw [rI_s, rI_s]) h.2.2.1 h.2.2.2
theorem TapeR.fr (h : TapeR σC σM) (f : FC [10] σC σC1) (g : FM [0, 1] [] [1, 2, 3] σM σM1) : TapeR σC1 σM1 := by
  unfold TapeR at *
  rw [f.fI 8 0 0 (by decide), f.fI 8 0 1 (by decide), g.1 8 (by decide), g.1 10 (by decide), g.1 11 (by decide), (g.2.2.2 4 (by decide) (by decide)).1]
  exact h
/-- a call on the trays -/
theorem Rel.tr (h : Rel σC σM) (f : FC [10] σC σC1) (g : FM [0, 1] [] [1, 2, 3] σM σM1) (n : TraysR σC1 σM1) (hs : gI σM1 12 0 0 0 = 0) : Rel (cS σC1 0) σM1 := by
  have p := h.1.io (f.m (by decide)) (g.m (by decide) (by decide) (by decide)) n (h.1.2.1.1.fr f g) (f.fL 8 0 2 (by decide))
  refine RelP.st p hs ?_ ?_
  · rw [f.fL 11 0 0 (by decide), g.2.1 2 (by decide)]; exact h.2.2.1
  · rw [f.fL 11 0 0 (by decide), g.2.1 3 (by decide)]; exact h.2.2.2
theorem not_tray {x : Int32} (h : ¬ F11_within x 0 3 = true) : x < 0 ∨ (¬ x < 0 ∧ 4 ≤ x) := by
  have e3 : (3 : Int32).toInt = 3 := rfl
  have e0 : (0 : Int32).toInt = 0 := rfl
  have e4 : (4 : Int32).toInt = 4 := rfl
  rw [within_iff, i32_le, i32_le] at h
  rw [i32_lt, i32_le]; omega
theorem tray_in {t : Nat} (ht : t < 4) : ¬ nI t < 0 ∧ ¬ (4 : Int32) ≤ nI t ∧ nI t < 4 ∧ nI t ≤ 3 :=
  ⟨nI_pos (by omega), nI_ge (a := t) (b := 4) (by omega) (by omega), nI_lt (a := t) (b := 4) (by omega) (by omega), nI_le (a := t) (b := 3) (by omega) (by omega)⟩
theorem m_trayL {t many : Nat} (ht : t < 4) (hm : many ≤ 60) : ∃ r, F12_tray_L74 (nI t) (nI many) fuelK τ 0 = some r ∧ ∃ f : Nat → Int64, r.2 = sLf τ 12 0 3 f ∧ (∀ k, k < many → f (60 * t + k) = 0) ∧ (∀ u, (u < 60 * t ∨ 60 * t + 60 ≤ u) → f u = gL τ 12 0 3 u) := by
  refine loopG (L := fun m (w : Mem × Int32) => F12_tray_L74 (nI t) (nI many) m w.1 w.2) (N := many)
    (Inv := fun i w => w.2 = nI i ∧ ∃ f : Nat → Int64, w.1 = sLf τ 12 0 3 f ∧ (∀ k, k < i → f (60 * t + k) = 0) ∧ (∀ u, (u < 60 * t ∨ 60 * t + 60 ≤ u) → f u = gL τ 12 0 3 u)) ?_ many fuelK 0 (τ, 0) (by omega) (fuelK_lt (by omega)) ⟨rfl, gL τ 12 0 3, sLf_self.symm, fun k hk => absurd hk (by omega), fun u _ => rfl⟩
  rintro m i ⟨τ1, w⟩ hi ⟨e1, f, e2, e3, e4⟩
  simp only at e1 e2
  subst e1; subst e2
  simp only [F12_tray_L74.eq_2]
  by_cases e : i = many
  · subst e
    exact .inl ⟨_, by rw [if_pos (Int32.le_refl _)], f, rfl, e3, e4⟩
  · refine .inr ⟨by omega, ?_⟩
    rw [if_neg (nI_ge (by omega) (by omega)), ix60, chk_nI (by omega) (by omega), bnd_eq, cl_nI (by omega), nI_1]
    refine ⟨(sLf τ 12 0 3 (vp_updL f (60 * t + i) 0), nI (i + 1)), ?_, rfl, vp_updL f (60 * t + i) 0, rfl, fun k hk => ?_, fun u hu => ?_⟩
    · simp only [sLf_sLf, rL_f]
    · rw [updL_eq]
      by_cases e5 : 60 * t + k = 60 * t + i
      · rw [if_pos e5]
      · rw [if_neg e5]; exact e3 k (by omega)
    · rw [updL_eq, if_neg (by omega)]; exact e4 u hu
theorem st_tray (h : Rel σC σM) (x1 x2 x3 : Int32) : Stq (F11_tray σC x1 x2 x3) (F12_tray σM x1 x2 x3) := by
  have e60 : (60 : Int32).toInt = 60 := rfl
  have e0 : (0 : Int32).toInt = 0 := rfl
  unfold F11_tray F12_tray
  rw [bnd_mS, isTray_w]
  by_cases g1 : ¬ F11_within x1 0 3 = true
  · simp only [g1, ↓reduceIte, if_false, Bool.false_and, Bool.and_false, Bool.true_and, Bool.and_true, Bool.false_eq_true, if_true, Bool.and_self, ans_eq, ref_eq, agr_eq, den_eq, mref_eq, mno_eq, bd_some, Option.bind_some, ne_2_0, ne_5_0]
    rcases not_tray g1 with q | ⟨q1, q2⟩
    · simp only [q, ↓reduceIte, if_false, Bool.false_and, Bool.and_false, Bool.true_and, Bool.and_true, Bool.false_eq_true, if_true, Bool.and_self, ans_eq, ref_eq, agr_eq, den_eq, mref_eq, mno_eq, bd_some, Option.bind_some, ne_2_0, ne_5_0]
      exact ⟨_, _, _, rfl, rfl, h.no 1⟩
    · simp only [q1, q2, ↓reduceIte, if_false, Bool.false_and, Bool.and_false, Bool.true_and, Bool.and_true, Bool.false_eq_true, if_true, Bool.and_self, ans_eq, ref_eq, agr_eq, den_eq, mref_eq, mno_eq, bd_some, Option.bind_some, ne_2_0, ne_5_0]
      exact ⟨_, _, _, rfl, rfl, h.no 1⟩
  replace g1 := Decidable.not_not.mp g1
  obtain ⟨t, ht, rfl⟩ := in_tray g1
  obtain ⟨i1, i2, -, -⟩ := tray_in ht
  rw [if_pos g1, if_neg i1, if_neg i2]
  by_cases g2 : ¬ F11_within x2 0 3 = true
  · simp only [g2, ↓reduceIte, if_false, Bool.false_and, Bool.and_false, Bool.true_and, Bool.and_true, Bool.false_eq_true, if_true, Bool.and_self, ans_eq, ref_eq, agr_eq, den_eq, mref_eq, mno_eq, bd_some, Option.bind_some, ne_2_0, ne_5_0]
    rcases not_tray g2 with q | ⟨q1, q2⟩
    · simp only [q, ↓reduceIte, if_false, Bool.false_and, Bool.and_false, Bool.true_and, Bool.and_true, Bool.false_eq_true, if_true, Bool.and_self, ans_eq, ref_eq, agr_eq, den_eq, mref_eq, mno_eq, bd_some, Option.bind_some, ne_2_0, ne_5_0]
      exact ⟨_, _, _, rfl, rfl, h.no 1⟩
    · have q3 : ¬ x2 ≤ 3 := fun e => by rw [i32_le] at e q2; have : (3 : Int32).toInt = 3 := rfl; have : (4 : Int32).toInt = 4 := rfl; omega
      simp only [q1, q3, ↓reduceIte, if_false, Bool.false_and, Bool.and_false, Bool.true_and, Bool.and_true, Bool.false_eq_true, if_true, Bool.and_self, ans_eq, ref_eq, agr_eq, den_eq, mref_eq, mno_eq, bd_some, Option.bind_some, ne_2_0, ne_5_0]
      exact ⟨_, _, _, rfl, rfl, h.no 1⟩
  replace g2 := Decidable.not_not.mp g2
  obtain ⟨s, hs, rfl⟩ := in_tray g2
  obtain ⟨j1, -, -, j2⟩ := tray_in hs
  rw [if_pos g2, if_neg j1, if_pos j2]
  by_cases g3 : ¬ x3 ≤ 60
  · simp only [g3, ↓reduceIte, if_false, Bool.false_and, Bool.and_false, Bool.true_and, Bool.and_true, Bool.false_eq_true, if_true, Bool.and_self, ans_eq, ref_eq, agr_eq, den_eq, mref_eq, mno_eq, bd_some, Option.bind_some, ne_2_0, ne_5_0]
    exact ⟨_, _, _, rfl, rfl, h.no 5⟩
  replace g3 := Decidable.not_not.mp g3
  by_cases g4 : ¬ 0 ≤ x3
  · simp only [g3, g4, ↓reduceIte, if_false, Bool.false_and, Bool.and_false, Bool.true_and, Bool.and_true, Bool.false_eq_true, if_true, Bool.and_self, ans_eq, ref_eq, agr_eq, den_eq, mref_eq, mno_eq, bd_some, Option.bind_some, ne_2_0, ne_5_0]
    exact ⟨_, _, _, rfl, rfl, h.no 6⟩
  replace g4 := Decidable.not_not.mp g4
  obtain ⟨M, hM, rfl⟩ := i32_ex (x := x3) 60 (i32_le.mp g4) (i32_le.mp g3)
  rw [if_pos g3, if_pos g4, if_pos g3, if_pos g4, ald_nI (by omega) (by omega), Option.bind_some]
  simp only [id]
  rw [chk_nI (by omega) (by omega), bnd_eq, chk_nI (by omega) (by omega), bnd_eq, cl_nI (by omega)]
  obtain ⟨⟨u, τ⟩, m1, f, m2, m3, m4⟩ := m_trayL (τ := sI (sI (mS σM) 12 0 1 t (nI s)) 12 0 2 t (nI M)) ht hM
  simp only at m2
  subst m2
  obtain ⟨fc, c1, c2⟩ := fillL_eq (σ := sI (sI (sB σC 10 t 0 0 true) 10 t 0 1 (nI s)) 10 t 0 2 (nI M)) (a := 10) (b := t) (c := 1) (N := 60) (v := 0) (by omega)
  rw [m1, bd_some, F10_lay]
  simp only [bnd_eq]
  rw [c1, bd_some, bd_some, agr_eq, bd_some]
  refine ⟨_, _, _, rfl, rfl, h.tr ?_ ?_ (fun t' ht' => ?_) ?_⟩
  · repeat' first | exact FC.z | refine FC.sI ?_ (by decide) | refine FC.sL ?_ (by decide) | refine FC.sB ?_ (by decide)
  · repeat' first | exact FM.z | refine FM.sI ?_ (by decide) | refine FM.sL ?_ (by decide) | refine FM.sP ?_ (by decide) (by decide) | refine FM.sPL ?_ (by decide) (by decide)
  · by_cases e : t' = t
    · subst e
      right
      refine ⟨?_, ?_, ?_, ?_, ?_, fun k hk => ?_⟩
      · simp (disch := decide) only [rI_s, rI_n, rI_f, rI_a, rI_c, rL_s, rL_n, rL_f, rL_a, rL_c, rB_s, rB_n, rB_a, rR_s, rR_n, gI_sL, gI_sB, gI_sR, gL_sI, gL_sB, gL_sR, gB_sI, gB_sL, gB_sR, gR_sI, gR_sL, gR_sB]
      · simp (disch := decide) only [rI_s, rI_n, rI_f, rI_a, rI_c, rL_s, rL_n, rL_f, rL_a, rL_c, rB_s, rB_n, rB_a, rR_s, rR_n, gI_sL, gI_sB, gI_sR, gL_sI, gL_sB, gL_sR, gB_sI, gB_sL, gB_sR, gR_sI, gR_sL, gR_sB]
      · simp (disch := decide) only [rI_s, rI_n, rI_f, rI_a, rI_c, rL_s, rL_n, rL_f, rL_a, rL_c, rB_s, rB_n, rB_a, rR_s, rR_n, gI_sL, gI_sB, gI_sR, gL_sI, gL_sB, gL_sR, gB_sI, gB_sL, gB_sR, gR_sI, gR_sL, gR_sB]
      · simp (disch := decide) only [rI_s, rI_n, rI_f, rI_a, rI_c, rL_s, rL_n, rL_f, rL_a, rL_c, rB_s, rB_n, rB_a, rR_s, rR_n, gI_sL, gI_sB, gI_sR, gL_sI, gL_sB, gL_sR, gB_sI, gB_sL, gB_sR, gR_sI, gR_sL, gR_sB]; exact g4
      · simp (disch := decide) only [rI_s, rI_n, rI_f, rI_a, rI_c, rL_s, rL_n, rL_f, rL_a, rL_c, rB_s, rB_n, rB_a, rR_s, rR_n, gI_sL, gI_sB, gI_sR, gL_sI, gL_sB, gL_sR, gB_sI, gB_sL, gB_sR, gR_sI, gR_sL, gR_sB]; exact g3
      · have hk2 : k < M := by
          have : gI (sLf (sI (sI (mS σM) 12 0 1 t' (nI s)) 12 0 2 t' (nI M)) 12 0 3 f) 12 0 2 t' = nI M := by simp (disch := decide) only [rI_s, rI_n, rI_f, rI_a, rI_c, rL_s, rL_n, rL_f, rL_a, rL_c, rB_s, rB_n, rB_a, rR_s, rR_n, gI_sL, gI_sB, gI_sR, gL_sI, gL_sB, gL_sR, gB_sI, gB_sL, gB_sR, gR_sI, gR_sL, gR_sB]
          rw [this, nat_nI (by omega)] at hk; exact hk
        rw [rL_f, rL_f, c2 k (by omega), m3 k hk2]
    · have a1 : gB (sLf (sI (sI (sB σC 10 t 0 0 true) 10 t 0 1 (nI s)) 10 t 0 2 (nI M)) 10 t 1 fc) 10 t' 0 0 = gB σC 10 t' 0 0 := by simp [gB_sL, gB_sI, gB_sB, e]
      have a2 : ∀ k, gI (sLf (sI (sI (sB σC 10 t 0 0 true) 10 t 0 1 (nI s)) 10 t 0 2 (nI M)) 10 t 1 fc) 10 t' 0 k = gI σC 10 t' 0 k := fun k => by simp [gI_sL, gI_sI, gI_sB, e]
      have a3 : ∀ k, gL (sLf (sI (sI (sB σC 10 t 0 0 true) 10 t 0 1 (nI s)) 10 t 0 2 (nI M)) 10 t 1 fc) 10 t' 1 k = gL σC 10 t' 1 k := fun k => by simp [gL_sL, gL_sI, gL_sB, e]
      have b1 : gI (sLf (sI (sI (mS σM) 12 0 1 t (nI s)) 12 0 2 t (nI M)) 12 0 3 f) 12 0 1 t' = gI σM 12 0 1 t' := by
        simp (disch := decide) only [rI_s, rI_n, rI_f, rI_a, rI_c, rL_s, rL_n, rL_f, rL_a, rL_c, rB_s, rB_n, rB_a, rR_s, rR_n, gI_sL, gI_sB, gI_sR, gL_sI, gL_sB, gL_sR, gB_sI, gB_sL, gB_sR, gR_sI, gR_sL, gR_sB, upd_eq]; rw [if_neg e]
      have b2 : gI (sLf (sI (sI (mS σM) 12 0 1 t (nI s)) 12 0 2 t (nI M)) 12 0 3 f) 12 0 2 t' = gI σM 12 0 2 t' := by
        simp (disch := decide) only [rI_s, rI_n, rI_f, rI_a, rI_c, rL_s, rL_n, rL_f, rL_a, rL_c, rB_s, rB_n, rB_a, rR_s, rR_n, gI_sL, gI_sB, gI_sR, gL_sI, gL_sB, gL_sR, gB_sI, gB_sL, gB_sR, gR_sI, gR_sL, gR_sB, upd_eq]; rw [if_neg e]
      rw [a1, a2, a2, b1, b2]
      rcases h.1.1 t' ht' with r | ⟨r1, r2, r3, r4, r5, r6⟩
      · exact .inl r
      · refine .inr ⟨r1, r2, r3, r4, r5, fun k hk => ?_⟩
        have := nat_i (gI σM 12 0 2 t')
        have b5 := i32_le.mp r5
        rw [a3, rL_f, m4 _ (by omega), r6 k hk]; rfl
  · simp (disch := decide) only [rI_s, rI_n, rI_f, rI_a, rI_c, rL_s, rL_n, rL_f, rL_a, rL_c, rB_s, rB_n, rB_a, rR_s, rR_n, gI_sL, gI_sB, gI_sR, gL_sI, gL_sB, gL_sR, gB_sI, gB_sL, gB_sR, gR_sI, gR_sL, gR_sB]
theorem wp_eq (h : Rel σC σM) {τ : Mem} (t2 : gI τ 12 0 2 = gI σM 12 0 2) (x1 x2 : Int32) : ∃ v, F11_wrongPlace σC x1 x2 = some v ∧ F12_placed τ x1 x2 = some v ∧ ((v = 1 ∨ v = 3 ∨ v = 4) ∨ (v = 0 ∧ ∃ t M k, t < 4 ∧ k < M ∧ x1 = nI t ∧ x2 = nI k ∧ TrIs σC σM t M)) := by
  unfold F11_wrongPlace F12_placed F12_trayed
  rw [isTray_w]
  by_cases g1 : ¬ F11_within x1 0 3 = true
  · rw [if_neg g1]
    refine ⟨1, rfl, ?_, .inl (.inl rfl)⟩
    rcases not_tray g1 with q | ⟨q1, q2⟩
    · rw [if_pos q, Option.bind_some, if_neg (by decide)]
    · have : ¬ x1 < 4 := Int32.not_lt.mpr q2
      rw [if_neg q1, if_neg this, Option.bind_some, if_neg (by decide)]
  replace g1 := Decidable.not_not.mp g1
  obtain ⟨t, ht, rfl⟩ := in_tray g1
  obtain ⟨i1, -, i3, -⟩ := tray_in ht
  rw [if_pos g1, if_neg i1, if_pos i3, ald_nI (by omega) (by omega), Option.bind_some, ald_nI (by omega) (by omega), Option.bind_some, t2]
  simp only [id]
  rcases h.tray ht with ⟨q1, q2⟩ | ⟨M, tr⟩
  · simp only [q1, q2, Option.bind_some, Bool.false_eq_true, if_false]
    rw [if_neg (show ¬ (0 : Int32) ≤ -1 by decide), Option.bind_some, if_neg (show ¬ (3 : Int32) ≤ 0 by decide)]
    exact ⟨3, rfl, rfl, .inl (.inr (.inl rfl))⟩
  · have hM := tr.2.2.2.2.1
    have hfr := hasFrom_iff (x := x2) (n := 1) tr.2.2.1 hM
    have e1 : (1 : Int32).toInt = 1 := rfl
    have e0 : (0 : Int32).toInt = 0 := rfl
    have eM := nI_int (n := M) (by omega)
    rw [tr.1, tr.2.2.2.1, if_pos rfl]
    simp only [Option.bind_some]
    rw [if_pos (show 0 ≤ nI M from nI_pos' (by omega)), Option.bind_some, if_pos (show (0 : Int32) ≤ 0 by decide)]
    by_cases g2 : 0 ≤ x2.toInt ∧ x2.toInt + 1 ≤ M
    · have : F10_hasFrom σC t x2 1 = true := hfr.mpr (by omega)
      obtain ⟨k, hk, rfl⟩ := i32_ex (x := x2) 60 g2.1 (by omega)
      rw [nI_int (by omega)] at g2
      rw [if_pos this, if_neg (nI_pos (by omega)), if_pos (nI_lt (by omega) (by omega))]
      exact ⟨0, rfl, rfl, .inr ⟨rfl, t, M, k, ht, by omega, rfl, rfl, tr⟩⟩
    · have : ¬ F10_hasFrom σC t x2 1 = true := fun e => by have := hfr.mp e; omega
      rw [if_neg this]
      refine ⟨4, rfl, ?_, .inl (.inr (.inr rfl))⟩
      by_cases g3 : x2 < 0
      · rw [if_pos g3]
      · have : ¬ x2.toInt < (0 : Int32).toInt := fun e => g3 (i32_lt.mpr e)
        rw [if_neg g3, if_neg (by rw [i32_lt, eM]; omega)]
theorem cut_eq {s : Int32} {y : Int64} {t k : Nat} {σ : Mem} (h1 : gI σ 10 t 0 1 = s) (hf : F10_hasFrom σ t (nI k) 1 = true) (hk : k < 60) : F10_put σ t (nI k) y = some ((), sL σ 10 t 1 k (F12_cut s y)) := by
  unfold F10_put F12_cut
  rw [if_pos hf, h1]
  simp (disch := omega) only [chk_nI, cl_nI, bnd_eq]
  by_cases e0 : s = 0
  · rw [if_pos e0, if_pos e0]
  rw [if_neg e0, if_neg e0]
  by_cases e1 : s = 1
  · rw [if_pos e1, if_pos e1]
  rw [if_neg e1, if_neg e1]
  by_cases e2 : s = 2
  · rw [if_pos e2, if_pos e2]
  rw [if_neg e2, if_neg e2]
theorem st_write (h : Rel σC σM) (x1 x2 : Int32) (y : Int64) : Stq (F11_write σC x1 x2 y) (F12_write σM x1 x2 y) := by
  have t2 : gI (sI σM 12 0 0 1 0) 12 0 2 = gI σM 12 0 2 := rI_c (by decide)
  obtain ⟨v, w1, w2, w3⟩ := wp_eq h t2 x1 x2
  unfold F11_write F12_write
  rw [w1, Option.bind_some, bnd_eq, w2, Option.bind_some, bnd_eq, rI_s]
  rcases w3 with w3 | ⟨rfl, t, M, k, ht, hk, rfl, rfl, tr⟩
  · have n1 : ¬ v = 0 := by rcases w3 with e | e | e <;> rw [e] <;> decide
    have n2 : ¬ v ≤ 0 := by rcases w3 with e | e | e <;> rw [e] <;> decide
    rw [if_neg n1, if_neg n2, den_eq, bd_some]
    exact ⟨_, _, _, rfl, rfl, h.st v⟩
  · have hM := tr.2.2.2.2.1
    have s1 : gI (sI (sI σM 12 0 0 1 0) 12 0 0 0 0) 12 0 1 = gI σM 12 0 1 := by simp (disch := decide) only [rI_c]
    have hf : F10_hasFrom σC t (nI k) 1 = true := (hasFrom_iff tr.2.2.1 hM).mpr (by rw [nI_int (by omega)]; have e1 : (1 : Int32).toInt = 1 := rfl; omega)
    rw [if_pos rfl, if_pos (by decide), ald_nI (by omega) (by omega), Option.bind_some, ald_nI (by omega) (by omega), Option.bind_some, s1, ix60, chk_nI (by omega) (by omega), bnd_eq, cl_nI (by omega)]
    simp only [id]
    rw [cut_eq tr.2.1 hf (by omega), bd_some, agr_eq, bd_some]
    refine ⟨_, _, _, rfl, rfl, h.tr ?_ ?_ (fun t' ht' => ?_) ?_⟩
    · repeat' first | exact FC.z | refine FC.sI ?_ (by decide) | refine FC.sL ?_ (by decide) | refine FC.sB ?_ (by decide)
    · repeat' first | exact FM.z | refine FM.sI ?_ (by decide) | refine FM.sL ?_ (by decide) | refine FM.sP ?_ (by decide) (by decide) | refine FM.sPL ?_ (by decide) (by decide)
    · have b1 : gI (sL (sI (sI σM 12 0 0 1 0) 12 0 0 0 0) 12 0 3 (60 * t + k) (F12_cut (gI σM 12 0 1 t) y)) 12 0 1 = gI σM 12 0 1 := by simp (disch := decide) only [rI_s, rI_n, rI_f, rI_a, rI_c, rL_s, rL_n, rL_f, rL_a, rL_c, rB_s, rB_n, rB_a, rR_s, rR_n, gI_sL, gI_sB, gI_sR, gL_sI, gL_sB, gL_sR, gB_sI, gB_sL, gB_sR, gR_sI, gR_sL, gR_sB]
      have b2 : gI (sL (sI (sI σM 12 0 0 1 0) 12 0 0 0 0) 12 0 3 (60 * t + k) (F12_cut (gI σM 12 0 1 t) y)) 12 0 2 = gI σM 12 0 2 := by simp (disch := decide) only [rI_s, rI_n, rI_f, rI_a, rI_c, rL_s, rL_n, rL_f, rL_a, rL_c, rB_s, rB_n, rB_a, rR_s, rR_n, gI_sL, gI_sB, gI_sR, gL_sI, gL_sB, gL_sR, gB_sI, gB_sL, gB_sR, gR_sI, gR_sL, gR_sB]
      rw [b1, b2, gB_sL, gI_sL]
      rcases h.1.1 t' ht' with r | ⟨r1, r2, r3, r4, r5, r6⟩
      · exact .inl r
      · refine .inr ⟨r1, r2, r3, r4, r5, fun k' hk' => ?_⟩
        have n := nat_i (gI σM 12 0 2 t')
        have b5 := i32_le.mp r5
        have e60 : (60 : Int32).toInt = 60 := rfl
        rw [rL_f, updL_eq]
        by_cases e : t' = t
        · subst e
          rw [rL_f, updL_eq]
          by_cases e2 : k' = k
          · subst e2; rw [if_pos rfl, if_pos rfl]
          · rw [if_neg e2, if_neg (by omega), r6 k' hk']; rfl
        · rw [if_neg (by omega)]
          have : gL (sL σC 10 t 1 k (F12_cut (gI σM 12 0 1 t) y)) 10 t' 1 k' = gL σC 10 t' 1 k' := by simp [gL_sL, e]
          rw [this, r6 k' hk']; rfl
    · simp (disch := decide) only [rI_s, rI_n, rI_f, rI_a, rI_c, rL_s, rL_n, rL_f, rL_a, rL_c, rB_s, rB_n, rB_a, rR_s, rR_n, gI_sL, gI_sB, gI_sR, gL_sI, gL_sB, gL_sR, gB_sI, gB_sL, gB_sR, gR_sI, gR_sL, gR_sB]
theorem st_read (h : Rel σC σM) (x1 x2 : Int32) : Stq (F11_read σC x1 x2) (F12_read σM x1 x2) := by
  have t2 : gI (sI σM 12 0 0 1 0) 12 0 2 = gI σM 12 0 2 := rI_c (by decide)
  obtain ⟨v, w1, w2, w3⟩ := wp_eq h t2 x1 x2
  unfold F11_read F12_read
  rw [w1, Option.bind_some]
  simp only [bnd_eq]
  rw [w2, Option.bind_some, rI_s]
  rcases w3 with w3 | ⟨rfl, t, M, k, ht, hk, rfl, rfl, tr⟩
  · have n1 : ¬ v = 0 := by rcases w3 with e | e | e <;> rw [e] <;> decide
    have n2 : ¬ v ≤ 0 := by rcases w3 with e | e | e <;> rw [e] <;> decide
    rw [if_neg n1, if_neg n2, ref_eq, bd_some]
    exact ⟨_, _, _, rfl, rfl, h.st v⟩
  · have hM := tr.2.2.2.2.1
    rw [if_pos rfl, if_pos (by decide), ald_nI (by omega) (by omega), Option.bind_some, ix60, ald_nI (by omega) (by omega), Option.bind_some]
    simp only [id]
    rw [ald_nI (by omega) (by omega), Option.bind_some, gL_sI, gL_sI, gL_sI, tr.2.2.2.2.2 k hk]
    exact ⟨_, _, _, rfl, rfl, h.ok⟩
end TRA
