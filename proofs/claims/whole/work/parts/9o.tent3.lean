/-! PURE. tent, whole: it is taken. -/
section TNW
variable {σC σM σ τ σ1 τ1 σ0 τ0 : Mem} {L s e : Nat} {A RI : VI} {AL : VL} {C : Nat → Int32} {W : Nat → Int64} {B : Nat → Bool} {N : Int32}
theorem well_yes (h0 : gI τ 12 0 0 12 = 0) : F12_isWell τ = some (true, sI (sI τ 12 0 0 10 0) 12 0 0 11 (-1)) := by
  have b0 : gI (sI τ 12 0 0 10 0) 12 0 0 12 = 0 := by rw [rI_n (by decide)]; exact h0
  unfold F12_isWell
  rw [h0, bnd_eq, if_pos b0]
  unfold F12_isWell_p24
  rw [bnd_eq, if_pos (by rw [rI_n (by decide)]; exact b0)]
theorem tent_good (h : Rel σC σM) (g : GS L (gR σC 11 0 0 6) (gR σC 11 0 0 8) σC (tB σM L) s e A AL RI C W B N σ τ) (tp : TP A AL (sh C) (shW W) B) :
    ∃ v σ1 τ1, (gd 5 (gR (sI σ 8 0 0 1 0) 11 0 0 5) fun t_6 => gd 5 (gR (sI σ 8 0 0 1 0) 11 0 0 6) fun t_7 => bnd (sR (sI σ 8 0 0 1 0) 11 0 0 5 t_7) fun s_8 => bnd (sR s_8 11 0 0 6 t_6) fun s_9 => bd (F7_clear s_9 0) fun _ s_10 => gd 5 (gR s_10 11 0 0 7) fun t_11 => bd (F5_clear s_10 t_11) fun _ s_12 => gd 5 (gR s_12 11 0 0 5) fun t_13 => bd (F11_answer s_12 (gI s_12 9 t_13 0 7)) fun v_14 s_15 => some (v_14, s_15)) = some (v, σ1) ∧
      F12_tent_p186 τ = some (v, τ1) ∧ Rel σ1 τ1 := by
  obtain ⟨⟨u1, u2⟩, ⟨v1, v2⟩⟩ := h.1.2.2.1
  obtain ⟨⟨pf, -, -⟩, ⟨g1, g2, g3⟩, ⟨a1, a2, a3⟩, gc, gw, -, -⟩ := g
  obtain ⟨⟨f, f9, f5, f8, fl, fm⟩, m1, m2, m3, m4, m5, m6⟩ := pf
  have fR : gR σ 11 0 0 = gR σC 11 0 0 := f.fR 11 0 0 (by decide)
  generalize hu : gR σC 11 0 0 6 = u at *
  generalize ht : gR σC 11 0 0 5 = t at *
  generalize hr : gR σC 11 0 0 7 = r7 at *
  generalize hr8 : gR σC 11 0 0 8 = r8 at *
  have k5 : gR (sI σ 8 0 0 1 0) 11 0 0 5 = t := by rw [gR_sI, fR, ht]
  have k6 : gR (sI σ 8 0 0 1 0) 11 0 0 6 = u := by rw [gR_sI, fR, hu]
  rw [k5, k6, gd_at (by omega), gd_at (by omega), bnd_eq, bnd_eq]
  obtain ⟨fz, e1, e2⟩ := fillI_eq (σ := sI (sI (sR (sR (sI σ 8 0 0 1 0) 11 0 0 5 u) 11 0 0 6 t) 7 0 0 0 0) 7 0 0 1 0) (a := 7) (b := 0) (c := 5) (N := 6) (v := 0) (by omega)
  unfold F7_clear
  rw [bnd_eq, bnd_eq, e1, bdS, bdS]
  have k7 : gR (sIf (sI (sI (sR (sR (sI σ 8 0 0 1 0) 11 0 0 5 u) 11 0 0 6 t) 7 0 0 0 0) 7 0 0 1 0) 7 0 5 fz) 11 0 0 7 = r7 := by
    rw [gR_sI, gR_sI, gR_sI, rR_n (by decide), rR_n (by decide), gR_sI, fR, hr]
  rw [k7, gd_at (by omega)]
  generalize hσ : sIf (sI (sI (sR (sR (sI σ 8 0 0 1 0) 11 0 0 5 u) 11 0 0 6 t) 7 0 0 0 0) 7 0 0 1 0) 7 0 5 fz = σ10
  have clr : F5_clear σ10 r7 = some ((), sI (sI (sI (sB σ10 5 r7 0 0 false) 5 r7 0 1 0) 5 r7 0 2 0) 5 r7 0 8 0) := rfl
  rw [clr, bdS]
  have k5' : gR (sI (sI (sI (sB σ10 5 r7 0 0 false) 5 r7 0 1 0) 5 r7 0 2 0) 5 r7 0 8 0) 11 0 0 5 = u := by
    rw [gR_sI, gR_sI, gR_sI, gR_sB, ← hσ, gR_sI, gR_sI, gR_sI, rR_n (by decide), rR_s]
  have k6' : gR (sI (sI (sI (sB σ10 5 r7 0 0 false) 5 r7 0 1 0) 5 r7 0 2 0) 5 r7 0 8 0) 11 0 0 6 = t := by
    rw [gR_sI, gR_sI, gR_sI, gR_sB, ← hσ, gR_sI, gR_sI, gR_sI, rR_s]
  have k7' : gR (sI (sI (sI (sB σ10 5 r7 0 0 false) 5 r7 0 1 0) 5 r7 0 2 0) 5 r7 0 8 0) 11 0 0 7 = r7 := by
    rw [gR_sI, gR_sI, gR_sI, gR_sB, ← hσ]; exact k7
  have k8' : gR (sI (sI (sI (sB σ10 5 r7 0 0 false) 5 r7 0 1 0) 5 r7 0 2 0) 5 r7 0 8 0) 11 0 0 8 = r8 := by
    rw [gR_sI, gR_sI, gR_sI, gR_sB, ← hσ, gR_sI, gR_sI, gR_sI, rR_n (by decide), rR_n (by decide), gR_sI, fR, hr8]
  rw [k5', gd_at (by omega), ans_eq, bdS]
  -- what the class's state is
  have z9 : ∀ b, gI (sI (sI (sI (sB σ10 5 r7 0 0 false) 5 r7 0 1 0) 5 r7 0 2 0) 5 r7 0 8 0) 9 b = gI σ 9 b := by
    intro b; rw [← hσ]; funext k; simp (disch := decide) only [rI_s, rI_n, rI_f, rI_a, rI_c, rL_s, rL_n, rL_f, rL_a, rL_c, rB_s, rB_n, rB_a, rR_s, rR_n, gI_sL, gI_sB, gI_sR, gL_sI, gL_sB, gL_sR, gB_sI, gB_sL, gB_sR, gR_sI, gR_sL, gR_sB]
  have zl9 : ∀ b, gL (sI (sI (sI (sB σ10 5 r7 0 0 false) 5 r7 0 1 0) 5 r7 0 2 0) 5 r7 0 8 0) 9 b = gL σ 9 b := by
    intro b; rw [← hσ]; rfl
  have z5 : ∀ b, b ≠ r7 → gI (sI (sI (sI (sB σ10 5 r7 0 0 false) 5 r7 0 1 0) 5 r7 0 2 0) 5 r7 0 8 0) 5 b = gI σ 5 b ∧ gB (sI (sI (sI (sB σ10 5 r7 0 0 false) 5 r7 0 1 0) 5 r7 0 2 0) 5 r7 0 8 0) 5 b = gB σ 5 b := by
    intro b hb; rw [← hσ]
    refine ⟨?_, ?_⟩
    · funext k; simp [gI_sI, gI_sB, gI_sR, hb]
    · funext k; simp [gB_sI, gB_sB, gB_sR, hb]
  have zf : FC [5, 7, 8, 9, 11] σC (sI (sI (sI (sB σ10 5 r7 0 0 false) 5 r7 0 1 0) 5 r7 0 2 0) 5 r7 0 8 0) := by
    rw [← hσ]
    exact FC.sI (FC.sI (FC.sI (FC.sB (FC.sI (FC.sI (FC.sI (FC.t (FC.t (FC.sI (f.m (by decide)) (by decide)) (FC.R (by decide))) (FC.R (by decide))) (by decide)) (by decide)) (by decide)) (by decide)) (by decide)) (by decide)) (by decide)
  have z8 : ∀ j, gI (sI (sI (sI (sB σ10 5 r7 0 0 false) 5 r7 0 1 0) 5 r7 0 2 0) 5 r7 0 8 0) 8 0 0 j = gI (sI σ 8 0 0 1 0) 8 0 0 j := by
    intro j; rw [← hσ]; simp (disch := decide) only [rI_a, gI_sR, gI_sB]
  have z11 : ∀ j, gI (sI (sI (sI (sB σ10 5 r7 0 0 false) 5 r7 0 1 0) 5 r7 0 2 0) 5 r7 0 8 0) 11 0 0 j = gI σC 11 0 0 j := by
    intro j; rw [← hσ]; simp (disch := decide) only [rI_a, gI_sR, gI_sB]; rw [f.fI 11 0 0 (by decide)]
  have zl11 : ∀ j, gL (sI (sI (sI (sB σ10 5 r7 0 0 false) 5 r7 0 1 0) 5 r7 0 2 0) 5 r7 0 8 0) 11 0 0 j = gL σC 11 0 0 j := by
    intro j; rw [← hσ]; show gL σ 11 0 0 j = _; rw [f.fL 11 0 0 (by decide)]
  have zl8 : gL (sI (sI (sI (sB σ10 5 r7 0 0 false) 5 r7 0 1 0) 5 r7 0 2 0) 5 r7 0 8 0) 8 0 2 = gL σC 8 0 2 := by
    rw [← hσ]; exact fl
  have z7 : ∀ b, b ≠ 0 → TY (sI (sI (sI (sB σ10 5 r7 0 0 false) 5 r7 0 1 0) 5 r7 0 2 0) 5 r7 0 8 0) b = TY σC b := by
    intro b hb
    rw [← hσ]
    have : TY σ b = TY σC b := by simp only [TY, f.fI 7 b _ (show 7 ∉ [5, 8, 9] by decide)]
    rw [← this]
    simp [TY, gI_sI, gI_sB, gI_sR, hb]
  have y0 : gI (sI (sI (sI (sB σ10 5 r7 0 0 false) 5 r7 0 1 0) 5 r7 0 2 0) 5 r7 0 8 0) 7 0 0 0 = 0 := by rw [← hσ]; simp (disch := decide) only [rI_s, rI_n, rI_f, rI_a, rI_c, rL_s, rL_n, rL_f, rL_a, rL_c, rB_s, rB_n, rB_a, rR_s, rR_n, gI_sL, gI_sB, gI_sR, gL_sI, gL_sB, gL_sR, gB_sI, gB_sL, gB_sR, gR_sI, gR_sL, gR_sB]
  have y1 : gI (sI (sI (sI (sB σ10 5 r7 0 0 false) 5 r7 0 1 0) 5 r7 0 2 0) 5 r7 0 8 0) 7 0 0 1 = 0 := by rw [← hσ]; simp (disch := decide) only [rI_s, rI_n, rI_f, rI_a, rI_c, rL_s, rL_n, rL_f, rL_a, rL_c, rB_s, rB_n, rB_a, rR_s, rR_n, gI_sL, gI_sB, gI_sR, gL_sI, gL_sB, gL_sR, gB_sI, gB_sL, gB_sR, gR_sI, gR_sL, gR_sB]
  have y5 : gI (sI (sI (sI (sB σ10 5 r7 0 0 false) 5 r7 0 1 0) 5 r7 0 2 0) 5 r7 0 8 0) 7 0 5 = fz := by rw [← hσ]; simp (disch := decide) only [rI_s, rI_n, rI_f, rI_a, rI_c, rL_s, rL_n, rL_f, rL_a, rL_c, rB_s, rB_n, rB_a, rR_s, rR_n, gI_sL, gI_sB, gI_sR, gL_sI, gL_sB, gL_sR, gB_sI, gB_sL, gB_sR, gR_sI, gR_sL, gR_sB]
  have b5 : gB (sI (sI (sI (sB σ10 5 r7 0 0 false) 5 r7 0 1 0) 5 r7 0 2 0) 5 r7 0 8 0) 5 r7 0 0 = false := by simp (disch := decide) only [rI_s, rI_n, rI_f, rI_a, rI_c, rL_s, rL_n, rL_f, rL_a, rL_c, rB_s, rB_n, rB_a, rR_s, rR_n, gI_sL, gI_sB, gI_sR, gL_sI, gL_sB, gL_sR, gB_sI, gB_sL, gB_sR, gR_sI, gR_sL, gR_sB]
  generalize sI (sI (sI (sB σ10 5 r7 0 0 false) 5 r7 0 1 0) 5 r7 0 2 0) 5 r7 0 8 0 = σ12 at *
  -- the model
  unfold F12_tent_p186
  rw [well_yes g1, bdS, if_pos rfl]
  obtain ⟨τ2, d1, d2, ⟨d3, d3'⟩, d4⟩ := m_copyB (τ := sI (sI τ 12 0 0 10 0) 12 0 0 11 (-1)) (a := 4) (b := 0) (by omega) (by omega) (by omega)
  have d1' : F12_copy (sI (sI τ 12 0 0 10 0) 12 0 0 11 (-1)) 4 0 = some ((), τ2) := d1
  rw [d1', bdS]
  have c5 : gI (sI (sI τ 12 0 0 10 0) 12 0 0 11 (-1)) 12 0 5 = C := by rw [rI_c (by decide), rI_c (by decide)]; exact gc
  have c7 : gL (sI (sI τ 12 0 0 10 0) 12 0 0 11 (-1)) 12 0 7 = W := gw
  have n0 : ∀ j, j < 600 → gI τ2 12 0 5 j = sh C j := by
    intro j hj
    have := congrFun d3 j
    simp only [blkM, cM, if_pos hj, c5, Nat.mul_zero, Nat.zero_add] at this
    exact this
  have w0 : ∀ j, j < 14 → gL τ2 12 0 7 j = shW W j := by
    intro j hj
    have := congrFun d3' j
    simp only [blkW, wM, if_pos hj, c7, Nat.mul_zero, Nat.zero_add] at this
    exact this
  rw [al_5, Option.bind_some, n0 5 (by omega)]
  have mi : ∀ j, j ∉ [10, 11, 12, 13, 14, 15, 16, 17, 18, 27] → gI τ2 12 0 0 j = gI (tB σM L) 12 0 0 j := by
    intro j hj
    have h10 : j ≠ 10 := fun e => hj (by subst e; decide)
    have h11 : j ≠ 11 := fun e => hj (by subst e; decide)
    rw [d2.1 j List.not_mem_nil, rI_n h11, rI_n h10]
    have sub : ∀ i, i ∈ [12, 13, 14, 15, 16, 17, 18, 27] → i ∈ [10, 11, 12, 13, 14, 15, 16, 17, 18, 27] := by decide
    exact m1 j (fun hm => hj (sub j hm))
  have mr : ∀ p, p ≠ 5 → p ≠ 7 → p ≠ 0 → gI τ2 12 0 p = gI σM 12 0 p ∧ gL τ2 12 0 p = gL σM 12 0 p := by
    intro p p5 p7 p0
    obtain ⟨q1, q2⟩ := d2.2.2.2 p (by simp [p5, p7]) p0
    obtain ⟨q3, q4⟩ := m4 p p5 p7 p0
    refine ⟨?_, ?_⟩
    · rw [q1, rI_c p0, rI_c p0, q3, rI_c p0, rI_c p0, rI_c p0, rI_c p0]
    · rw [q2]; exact q4
  refine ⟨_, _, _, rfl, ?_, RelP.st (σC1 := σ12) (σM1 := τ2) (h.1.txt zf (z11 12) zl8 (fun b hb => ?_) (fun b hb => ?_) (fun b hb => z7 b (by omega)) ⟨?_, ?_, ?_, ?_⟩ ?_ ?_ (fun j h1 h2 => ?_) (fun j h1 h2 => ?_) ?_ ?_ ?_ ?_ ?_ ?_) ?_ ?_ ?_⟩
  · refine congrArg some (Prod.ext ?_ rfl)
    show sh C 5 = gI σ12 9 u 0 7
    rw [z9, a1]; exact tp.2.1.2.2.2.2.2.1.symm
  · obtain ⟨q1, q2⟩ := f9 b (by omega)
    exact ⟨by rw [z9, q1], by rw [zl9, q2]⟩
  · obtain ⟨q1, q2⟩ := f5 b (by omega)
    obtain ⟨q3, q4⟩ := z5 b (by omega)
    exact ⟨by rw [q3, q1], by rw [q4, q2]⟩
  · exact (mr 1 (by decide) (by decide) (by decide)).1
  · exact (mr 2 (by decide) (by decide) (by decide)).1
  · exact (mr 3 (by decide) (by decide) (by decide)).2
  · exact (mr 12 (by decide) (by decide) (by decide)).1
  · rw [mi 23 (by decide)]; simp (disch := decide) only [rI_s, rI_n, rI_f, rI_a, rI_c, rL_s, rL_n, rL_f, rL_a, rL_c, rB_s, rB_n, rB_a, rR_s, rR_n, gI_sL, gI_sB, gI_sR, gL_sI, gL_sB, gL_sR, gB_sI, gB_sL, gB_sR, gR_sI, gR_sL, gR_sB]
  · rw [d2.2.2.1]; show gB τ 12 0 0 47 = _; rw [m3 47 (by decide)]; rfl
  · obtain ⟨q1, -⟩ := d4 (j / 600) (by omega)
    have := congrFun q1 (j % 600)
    have hj : j % 600 < 600 := Nat.mod_lt _ (by omega)
    have hd : 600 * (j / 600) + j % 600 = j := Nat.div_add_mod j 600
    simp only [blkM, cM, if_pos hj, hd, c5] at this
    rw [this, ← gc, m5 j h2]; simp (disch := decide) only [rI_s, rI_n, rI_f, rI_a, rI_c, rL_s, rL_n, rL_f, rL_a, rL_c, rB_s, rB_n, rB_a, rR_s, rR_n, gI_sL, gI_sB, gI_sR, gL_sI, gL_sB, gL_sR, gB_sI, gB_sL, gB_sR, gR_sI, gR_sL, gR_sB]
  · obtain ⟨-, q1⟩ := d4 (j / 14) (by omega)
    have := congrFun q1 (j % 14)
    have hj : j % 14 < 14 := Nat.mod_lt _ (by omega)
    have hd : 14 * (j / 14) + j % 14 = j := Nat.div_add_mod j 14
    simp only [blkW, wM, if_pos hj, hd, c7] at this
    rw [this, ← gw, m6 j h2]; rfl
  · rw [z8, rI_s]
  · rw [mi 8 (by decide), rI_s]
  · rw [z8, rI_n (by decide), g2, d2.1 10 List.not_mem_nil, rI_n (by decide), rI_s]
  · rw [z8, rI_n (by decide), g3, d2.1 11 List.not_mem_nil, rI_s]
  · rw [k5', k6', k7', k8']; exact ⟨⟨by omega, by omega⟩, v1, v2⟩
  · rw [k5', k7']
    have e : ∀ k, k < 600 → blkM τ2 0 k = sh C k := fun k hk => by simp only [blkM, if_pos hk, Nat.zero_add]; exact n0 k hk
    have ew : ∀ k, k < 14 → blkW τ2 0 k = shW W k := fun k hk => by simp only [blkW, if_pos hk, Nat.zero_add]; exact w0 k hk
    obtain ⟨t0, t1, -, -, ⟨q7, q8, q323, q77⟩, -⟩ := tp
    refine ⟨t0.cel (fun k hk => e k (by omega)), ?_, ⟨⟨?_, ?_⟩, ⟨?_, ?_⟩, fun k hk => ?_, fun k hk => ?_⟩, .inl ⟨b5, ?_⟩⟩
    · rw [z9, zl9, a1, a2]; exact t1.cel t0 (fun k hk => e k (by omega)) ew
    · rw [e 7 (by omega), q7]; exact y0
    · rw [e 8 (by omega), q8]; exact y1
    · rw [e 7 (by omega), q7]; decide
    · rw [e 8 (by omega), q8]; decide
    · rw [e _ (by omega), q77 k hk]
      show gI σ12 7 0 5 k = 0
      rw [y5]; exact e2 k hk
    · rw [e 8 (by omega), q8] at hk
      exact absurd hk (by have : nat (0 : Int32) = 0 := rfl; omega)
    · rw [e 323 (by omega)]; exact q323
  · rw [mi 0 (by decide), rI_n (by decide), rI_n (by decide)]; exact rI_s
  · rw [zl11, d2.2.1 2 List.not_mem_nil]; show _ = gL τ 12 0 0 2; rw [m2 2 (by decide)]; exact h.2.2.1
  · rw [zl11, d2.2.1 3 List.not_mem_nil]; show _ = gL τ 12 0 0 3; rw [m2 3 (by decide)]; exact h.2.2.2
theorem st_tent (h : Rel σC σM) (x1 : Int32) : Stq (F11_tent σC x1) (F12_tent σM x1) := by
  obtain ⟨⟨u1, u2⟩, ⟨v1, v2⟩⟩ := h.1.2.2.1
  have p3 := i32_le.mp h.1.2.1.1.2.2.1
  rw [← h.1.2.1.1.1] at p3
  have z9 : (900 : Int32).toInt = 900 := rfl
  have iM : iMin (gI σC 8 0 0 1) 900 = gI σC 8 0 0 1 := by
    unfold iMin
    split
    · rename_i c
      first
        | rfl
        | (rw [i32_eq]; have := i32_lt.mp c; omega)
    · rename_i c
      first
        | rfl
        | (rw [i32_eq]; have := mt i32_lt.mpr c; omega)
  unfold F11_tent F12_tent
  rw [bnd_mS]
  by_cases hx : ¬ F11_within x1 0 (gI σC 8 0 0 1) = true
  · rw [if_neg hx, opens_no h (by decide) (by rw [iM]; exact hx), bdS, if_neg (by decide), ref_eq, bdS]
    exact ⟨_, _, _, rfl, rfl, h.no 5⟩
  replace hx := Decidable.not_not.mp hx
  obtain ⟨L, s, e, σ, τ, rfl, hL, o1, o2, g, gr⟩ := opens h (gR σC 11 0 0 6) (gR σC 11 0 0 8) (m := 900) (by decide) (by rw [iM]; exact hx)
  rw [if_pos hx, o1, bdS, o2, bdS, if_pos rfl, show gR σ 11 0 0 6 = gR σC 11 0 0 6 by rw [gr], gd_at (by omega)]
  obtain ⟨τ2, c1, c2, c3, c4⟩ := m_clr6 600 fuelK 0 τ (by omega) (fuelK_lt (by omega))
  have c1' : F12_tent_L25 fuelK τ 0 = some ((), τ2) := c1
  rw [c1', bdS, m_begins, bdS, bnd_eq, bnd_eq, bnd_eq]
  unfold F9_parse
  generalize hu : gR σC 11 0 0 6 = u at *
  have clr : F9_clear σ u = some ((), sI (sI (sI (sI (sI (sI (sI (sI σ 9 u 0 0 24) 9 u 0 1 8) 9 u 0 2 12) 9 u 0 3 0) 9 u 0 4 0) 9 u 0 7 0) 9 u 0 13 0) 9 u 0 19 0) := rfl
  rw [clr, bdS]
  have g8 := (((((((((((((((g.m5s c2 (fun j hj => c4 j (by omega))).m5 (j := 2400) (v := 24) (by omega)).m5 (j := 2401) (v := 8) (by omega)).m5 (j := 2402) (v := 12) (by omega)).mB (j := 24) (v := false) (by decide)).mB (j := 25) (v := false) (by decide)).mB (j := 26) (v := false) (by decide)).c9 (c := 0) (j := 0) (v := 24)).c9 (c := 0) (j := 1) (v := 8)).c9 (c := 0) (j := 2) (v := 12)).c9 (c := 0) (j := 3) (v := 0)).c9 (c := 0) (j := 4) (v := 0)).c9 (c := 0) (j := 7) (v := 0)).c9 (c := 0) (j := 13) (v := 0)).c9 (c := 0) (j := 19) (v := 0))
  have tp := tp_begin (A0 := gI σC 9 u) (AL := gL σC 9 u) (c := sh (upd (upd (upd (gI τ2 12 0 5) 2400 24) 2401 8) 2402 12)) (w := shW (gL σM 12 0 7)) (B := upB (upB (upB (gB σM 12 0 0) 24 false) 25 false) 26 false) ⟨rfl, rfl, rfl⟩
    (by show upd _ _ _ 2400 = _; rw [upd_ne (by omega), upd_ne (by omega), upd_s]) (by show upd _ _ _ 2401 = _; rw [upd_ne (by omega), upd_s]) (by show upd _ _ _ 2402 = _; rw [upd_s])
    (fun j h1 h2 => by show upd _ _ _ (2400 + j) = _; rw [upd_ne (by omega), upd_ne (by omega), upd_ne (by omega)]; exact c3 j (by omega) h2)
  obtain ⟨b, σ', τ', q1, q2, q3⟩ := tent_loop (L - s) fuelK fuelK 0 s e _ _ _ _ _ _ _ (Nat.le_refl _) (fuelK_lt (by omega)) (fuelK_lt (by omega)) (by omega) g8 tp
  have q1' : F9_parse_L6 u fuelK (sI (sI (sI (sI (sI (sI (sI (sI σ 9 u 0 0 24) 9 u 0 1 8) 9 u 0 2 12) 9 u 0 3 0) 9 u 0 4 0) 9 u 0 7 0) 9 u 0 13 0) 9 u 0 19 0) 0 = some (b, σ') := q1
  rw [q1', bdS, q2, bdS, bnd_eq]
  rcases q3 with ⟨rfl, s', e', A, AL, C, W, B, g', tp'⟩ | ⟨rfl, bs⟩
  · rw [if_pos rfl]
    rw [← hu] at g'
    obtain ⟨v, σ1, τ1, r1, r2, r3⟩ := tent_good h g' tp'
    rw [r1, r2]
    exact ⟨_, _, _, rfl, rfl, r3⟩
  · rw [if_neg (by decide), ref_eq, bdS]
    unfold F12_tent_p186
    rw [← hu] at bs
    obtain ⟨τ3, r1, r2⟩ := txt_bad h bs
    rw [r1, bdS, if_neg (by decide)]
    exact ⟨_, _, _, rfl, rfl, r2⟩
end TNW
