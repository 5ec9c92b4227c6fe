/-! PURE. A shot by hand, on both sides. -/
section SHU
variable {σC σM σC1 σM1 σ τ : Mem} {c : Nat → Int32} {s p t t2 y : Nat} {X Y P : Int32}
theorem c_strike (ht : TentT (gI σ 9 t) c) (o : TentOk c) (ta : TallyR (TY σ y) c) (hs : s < 6) (h8 : nat (c 8) < 60) (e0 : gI σ 6 t2 0 0 = nI s) (e1 : gI σ 6 t2 0 1 = nI p) :
    ∃ σ', F7_strike σ y t t2 X Y = some (sPts c X Y, σ') ∧ FC [7] σ σ' ∧ (∀ b, b ≠ y → TY σ' b = TY σ b) ∧ TY σ' y = strT (TY σ y) s p X Y (sPts c X Y) := by
  have n8 : gI σ 7 y 0 1 = nI (nat (c 8)) := by rw [← nI_of32 ta.2.1.2.1]; exact ta.1.2
  unfold F7_strike
  simp (disch := omega) only [c_pts ht o, Option.bind_some, e0, ald_nI, chk_nI, bnd_eq, cl_nI]
  simp (disch := decide) only [rI_c, rI_n, rI_a, e0, e1, n8]
  unfold strT
  have hin : inW X Y = (F11_within X (-99) 99 && F11_within Y (-99) 99) := rfl
  by_cases g1 : F11_within X (-99) 99 = true
  · by_cases g2 : F11_within Y (-99) 99 = true
    · rw [if_pos g1, if_pos g2, if_neg (show ¬ (60 : Int32) ≤ nI (nat (c 8)) from nI_ge (a := nat (c 8)) (b := 60) (by omega) (by omega))]
      simp (disch := omega) only [chk_nI, cl_nI]
      refine ⟨_, rfl, ?_, fun b hb => ?_, ?_⟩
      · repeat' first | exact FC.z | refine FC.sI ?_ (by decide) | refine FC.sL ?_ (by decide) | refine FC.sB ?_ (by decide)
      · simp [TY, gI_sI, hb]
      · rw [if_pos (by rw [hin, g1, g2]; rfl)]
        simp only [n8]
        simp (disch := decide) only [TY, rI_c, rI_n, rI_s, rI_f, nat_nI (show nat (c 8) < 2147483648 by omega)]
    · rw [if_pos g1, if_neg g2]
      refine ⟨_, rfl, ?_, fun b hb => ?_, ?_⟩
      · repeat' first | exact FC.z | refine FC.sI ?_ (by decide) | refine FC.sL ?_ (by decide) | refine FC.sB ?_ (by decide)
      · simp [TY, gI_sI, hb]
      · rw [if_neg (by rw [hin]; simp [g2])]
        simp [TY, gI_sI, upd_eq]
  · rw [if_neg g1]
    refine ⟨_, rfl, ?_, fun b hb => ?_, ?_⟩
    · repeat' first | exact FC.z | refine FC.sI ?_ (by decide) | refine FC.sL ?_ (by decide) | refine FC.sB ?_ (by decide)
    · simp [TY, gI_sI, hb]
    · rw [if_neg (by rw [hin]; simp [g1])]
      simp [TY, gI_sI, upd_eq]
theorem chk_7 {γ : Type} {e : Option γ} : chk 3000 (7 : Int32) e = e := chk_nI (k := 7) (by omega) (by omega)
theorem chk_8 {γ : Type} {e : Option γ} : chk 3000 (8 : Int32) e = e := chk_nI (k := 8) (by omega) (by omega)
theorem cl_7 : Int32.toNatClampNeg 7 = 7 := rfl
theorem cl_8 : Int32.toNatClampNeg 8 = 8 := rfl
theorem m_shoots (hc : gI τ 12 0 5 = c) (o : TentOk c) (ok : HolesOk c) (hs : s < nat (c 6)) (h8 : nat (c 8) < 60) (x y turn hx hy : Int32) :
    F12_shoots τ (nI s) (nI p) x y turn hx hy = some (sPts c (x + c (65 + s) + gI τ 12 0 0 30 + hx + turn * gI τ 12 0 0 31) (y + c (71 + s) + hy - gI τ 12 0 0 29), sIf τ 12 0 5 (strC c s p (x + c (65 + s) + gI τ 12 0 0 30 + hx + turn * gI τ 12 0 0 31) (y + c (71 + s) + hy - gI τ 12 0 0 29) (sPts c (x + c (65 + s) + gI τ 12 0 0 30 + hx + turn * gI τ 12 0 0 31) (y + c (71 + s) + hy - gI τ 12 0 0 29)))) := by
  have h6 := ok_n6 o
  have n8 := ok.n8.2
  unfold F12_shoots
  rw [F12_strikeX, F12_strikeY]
  simp (disch := omega) only [ix_9, ix_15, ix_21, ix_29, ix_37, ix_45, ix_53, ix_59, ix_65, ix_71, ix_77, ix_83, ix_325, al_0, al_1, al_2, al_3, al_4, al_5, al_6, al_7, al_8, ald_nI, Option.bind_some, bnd_eq, bd_some, hc]
  rw [m_pts (by rw [hc]; exact o), hc, Option.bind_some]
  generalize x + c (65 + s) + gI τ 12 0 0 30 + hx + turn * gI τ 12 0 0 31 = X at *
  generalize y + c (71 + s) + hy - gI τ 12 0 0 29 = Y at *
  generalize sPts c X Y = P at *
  have u1 : upd c 7 (iMin 20 (c 7 + 1)) (77 + s) = c (77 + s) := by simp only [upd_eq]; rw [if_neg (by omega)]
  simp (disch := omega) only [chk_7, cl_7, bnd_eq, rI_f, hc, u1, chk_nI, cl_nI, sIf_sIf, wi_0, wi_1, isPuffing_w, isSpit_w, isAim_w, isPlace_w, wi_0_8, wi_0_20, wi_0_3, wi_m60_60, wi_m1_1, wi_0_1, wi_m999_999, wi_1_20, wi_1_30, wi_0_99, wi_1_5, wi_0_2, wi_m99_99, wi_1_12, wi_m6_6, wi_0_9999, wi_0_4, wi_1_40, ald_nI, Option.bind_some]
  have e0 : upd (upd c 7 (iMin 20 (c 7 + 1))) (77 + s) (c (77 + s) + P) = strC0 c s P := rfl
  rw [e0]
  have e8 : strC0 c s P 8 = c 8 := by unfold strC0; simp only [upd_eq]; rw [if_neg (by omega), if_neg (by omega)]
  have hin : inW X Y = (F11_within X (-99) 99 && F11_within Y (-99) 99) := rfl
  unfold strC
  by_cases g1 : F11_within X (-99) 99 = true
  · by_cases g2 : F11_within Y (-99) 99 = true
    · rw [if_pos g1, if_pos g2, if_pos (by rw [hin, g1, g2]; rfl), e8, n8, ha1, ha2, ha3, ha0]
      rw [nat_nI (by omega)]
      simp (disch := omega) only [chk_nI, cl_nI, sIf_sIf, rI_f, al_8, chk_8, cl_8, Option.bind_some]
      have e9 : upd (upd (upd (upd (strC0 c s P) (83 + 4 * nat (c 8)) X) (84 + 4 * nat (c 8)) Y) (85 + 4 * nat (c 8)) (nI s)) (86 + 4 * nat (c 8)) (nI p) 8 = nI (nat (c 8)) := by
        simp only [upd_eq]
        rw [if_neg (by omega), if_neg (by omega), if_neg (by omega), if_neg (by omega), e8, ← n8]
      rw [e9]
    · rw [if_pos g1, if_neg g2, if_neg (by rw [hin]; simp [g2])]
  · rw [if_neg g1, if_neg (by rw [hin]; simp [g1])]
/-- all but the tally and what was played is as it was -/
theorem RelP.main (h : RelP σC σM) {S : List Nat} (f : FC S σC σC1) (h5 : 5 ∉ S) (h8 : 8 ∉ S) (h9 : 9 ∉ S) (h10 : 10 ∉ S) (h11 : 11 ∉ S) (hb : ∀ i, TY σC1 (2 + i) = TY σC (2 + i))
    (m1 : gI σM1 12 0 1 = gI σM 12 0 1 ∧ gI σM1 12 0 2 = gI σM 12 0 2 ∧ gL σM1 12 0 3 = gL σM 12 0 3 ∧ gI σM1 12 0 4 = gI σM 12 0 4 ∧ gL σM1 12 0 7 = gL σM 12 0 7)
    (m2 : gI σM1 12 0 0 8 = gI σM 12 0 0 8 ∧ gI σM1 12 0 0 10 = gI σM 12 0 0 10 ∧ gI σM1 12 0 0 11 = gI σM 12 0 0 11 ∧ gI σM1 12 0 0 23 = gI σM 12 0 0 23)
    (agr : Agr (gI σM 12 0 5) (gI σM1 12 0 5)) (ta : TallyR (TY σC1 0) (gI σM1 12 0 5))
    (pl : gB σC1 4 0 0 0 = gB σM1 12 0 0 47 ∧ (gB σM1 12 0 0 47 = true → gI σC1 4 0 0 2 = gI σM1 12 0 12 0 ∧ gI σC1 4 0 0 3 = gI σM1 12 0 12 1 ∧ gI σC1 4 0 0 4 = gI σM1 12 0 12 2 ∧ gI σC1 4 0 0 5 = gI σM1 12 0 12 3 ∧ gI σC1 4 0 0 6 = gI σM1 12 0 12 4)) : RelP σC1 σM1 := by
  obtain ⟨p1, p2, p3, p4, p7⟩ := m1
  obtain ⟨q8, q10, q11, q23⟩ := m2
  obtain ⟨r1, ⟨r2, r2'⟩, r3, ⟨b1, b2, b3, b4⟩, ⟨r5, r6, r7, r8⟩, -⟩ := h
  have g9 : ∀ t, gI σC1 9 t = gI σC 9 t := fun t => by funext b'; exact f.fI 9 t b' h9
  have l9 : ∀ t, gL σC1 9 t = gL σC 9 t := fun t => by funext b'; exact f.fL 9 t b' h9
  have g5 : ∀ t, gI σC1 5 t = gI σC 5 t := fun t => by funext b'; exact f.fI 5 t b' h5
  have q5 : ∀ t, gB σC1 5 t = gB σC 5 t := fun t => by funext b'; exact f.fB 5 t b' h5
  have hi : ∀ b, 1 ≤ b → blkM σM1 (600 * b) = blkM σM (600 * b) := by
    intro b hb; funext j; unfold blkM; split
    · exact agr _ (.inr (.inr (by omega)))
    · rfl
  have hw : ∀ o, blkW σM1 o = blkW σM o := fun o => blkW_congr p7 o
  have a0 : Agr (blkM σM 0) (blkM σM1 0) := by
    intro j hj; unfold blkM; split
    · exact agr _ (by rw [Nat.zero_add]; exact hj)
    · rfl
  refine ⟨?_, ⟨?_, ?_⟩, ?_, ?_, ⟨?_, by rw [q23]; exact r6, by rw [q23]; exact r7, fun i hi2 => ?_⟩, pl⟩
  · intro t ht
    rw [f.fB 10 t 0 h10, f.fI 10 t 0 h10, f.fL 10 t 1 h10, p1, p2, p3]; exact r1 t ht
  · simp only [TapeR, f.fI 8 0 0 h8, f.fI 8 0 1 h8, p4, q8, q10, q11]; exact r2
  · rw [f.fL 8 0 2 h8]; exact r2'
  · rw [f.fR 11 0 0 h11]; exact r3
  · rw [f.fR 11 0 0 h11]
    unfold BlockR BlockV
    rw [g9, l9, g5, q5]
    refine ⟨b1.agr a0, ?_, ?_, RoundR.agr b4 a0⟩
    · rw [hw]; exact b2.agr b1 a0
    · have e : ∀ k, k < 600 → blkM σM1 0 k = gI σM1 12 0 5 k := fun k hk => by simp [blkM, hk]
      obtain ⟨⟨t1, t2⟩, ⟨t3, t4⟩, t5, t6⟩ := ta
      have n8 := b32 t4
      have e60 : (60 : Int32).toInt = 60 := rfl
      refine ⟨⟨by rw [e 7 (by omega)]; exact t1, by rw [e 8 (by omega)]; exact t2⟩, ⟨by rw [e 7 (by omega)]; exact t3, by rw [e 8 (by omega)]; exact t4⟩, fun k hk => by rw [e _ (by omega)]; exact t5 k hk, fun k hk => ?_⟩
      rw [e 8 (by omega)] at hk
      have := nat_i (gI σM1 12 0 5 8)
      rw [e _ (by omega), e _ (by omega), e _ (by omega), e _ (by omega)]
      exact t6 k hk
  · rw [f.fI 11 0 0 h11, q23]; exact r5
  · rw [q23] at hi2
    have k8 := r8 i hi2
    unfold BlockR at k8 ⊢
    rw [g9, l9, g5, q5, hb, hw, hi (i + 1) (by omega)]
    exact k8
end SHU
