/-! PURE. play, wins: how a game begins; a whole game. -/
section SGC
variable {ri : VI} {rb : VB} {c c' : Nat → Int32}
theorem Seg.cel (hc : ∀ j, j < 600 → c' j = c j) : ∀ n d s e p q, e ≤ 30 → Seg ri c n d s e p q → Seg ri c' n d s e p q := by
  intro n
  induction n with
  | zero => intro d s e p q _ h; exact h
  | succ n ih =>
    intro d s e p q he h
    unfold Seg at h ⊢
    rcases h with h | ⟨h0, ⟨h1, h2, h3⟩ | ⟨e1, q1, d1, h1, h2, h3, h4, h5, h6, h7⟩⟩
    · exact .inl h
    · refine .inr ⟨h0, .inl ⟨?_, by rw [hc _ (by omega)]; exact h2, ih _ _ _ _ _ he h3⟩⟩
      unfold StepS at h1 ⊢
      rw [hc 5 (by omega), hc 6 (by omega), hc (325 + 9 * s) (by omega), hc (325 + 9 * s + 1) (by omega), hc (325 + 9 * s + 2) (by omega)]; exact h1
    · refine .inr ⟨h0, .inr ⟨e1, q1, d1, h1, h2, h3, by rw [hc _ (by omega)]; exact h4, ?_, ih _ _ _ _ _ (by omega) h6, ih _ _ _ _ _ he h7⟩⟩
      unfold StepB at h5 ⊢
      rw [hc 6 (by omega), hc (325 + 9 * s) (by omega), hc (325 + 9 * s + 1) (by omega), hc (325 + 9 * s + 2) (by omega), hc (325 + 9 * s + 6) (by omega), hc (325 + 9 * s + 7) (by omega)]; exact h5
theorem RoundR.cel (h : RoundR ri rb c) (hc : ∀ j, j < 600 → c' j = c j) : RoundR ri rb c' := by
  rcases h with ⟨r1, r2⟩ | ⟨r1, r2, N, P, r3, r4, r5, r6, r7, r8⟩
  · exact .inl ⟨r1, by rw [hc _ (by omega)]; exact r2⟩
  · exact .inr ⟨r1, by rw [hc _ (by omega)]; exact r2, N, P, r3, r4, r5, by rw [hc _ (by omega)]; exact r6, r7, Seg.cel hc _ _ _ _ _ _ r3 r8⟩
theorem Rel.rnd {σC σM : Mem} (h : Rel σC σM) : RoundR (gI σC 5 (gR σC 11 0 0 7)) (gB σC 5 (gR σC 11 0 0 7)) (gI σM 12 0 5) :=
  RoundR.cel h.1.2.2.2.1.2.2.2 (fun j hj => by simp [blkM, hj])
end SGC
section PBE
variable {σ τ : Mem} {t u y r k : Nat}
abbrev cBeg (σ : Mem) (t k : Nat) : Mem := sI (sI (sI (sI (sI (sI (sI (sI (sI (sI (sI (sI (sB σ 4 t 0 0 true) 4 t 0 1 0) 4 t 0 2 0) 4 t 0 3 0) 4 t 0 4 0) 4 t 0 5 0) 4 t 0 6 0) 4 t 0 7 (nI k)) 4 t 0 8 0) 4 t 0 9 20) 6 (1 + t) 0 1 0) 6 (1 + t) 0 4 0) 6 (1 + t) 0 5 0
abbrev mBeg (τ : Mem) (k : Nat) : Mem := sB (sI (sI (sI (sI (sI (sI (sI (sI (sI (sI (sI (sI τ 12 0 0 49 (nI k)) 12 0 0 50 0) 12 0 0 51 0) 12 0 0 52 0) 12 0 0 53 0) 12 0 0 54 0) 12 0 0 55 0) 12 0 0 56 0) 12 0 0 57 0) 12 0 0 58 0) 12 0 0 59 20) 12 0 0 60 0) 12 0 0 48 false
theorem c_begin4 : F4_begin σ t (nI k) = some ((), cBeg σ t k) := rfl
theorem mBeg_c : gI (mBeg τ k) 12 0 5 = gI τ 12 0 5 := by simp (disch := decide) only [rI_s, rI_n, rI_f, rI_a, rI_c, rL_s, rL_n, rL_f, rL_a, rL_c, rB_s, rB_n, rB_a, rR_s, rR_n, gI_sL, gI_sB, gI_sR, gL_sI, gL_sB, gL_sR, gB_sI, gB_sL, gB_sR, gR_sI, gR_sL, gR_sB]
theorem m_plays : F12_plays τ (nI k) = ((ald 3000 (gI (mBeg τ k) 12 0 5) 324).bind fun v_14 => bd (F12_doAll (mBeg τ k) 0 v_14) fun _ s_15 => some ((), s_15)) := rfl
/-- what a game may change, from its beginning -/
def PlK (t y : Nat) (σ τ σ' τ' : Mem) : Prop :=
  (FC [4, 6, 7] σ σ' ∧ (∀ b, b ≠ y → TY σ' b = TY σ b) ∧ (∀ b i, b ≠ t → gI σ' 4 b i = gI σ 4 b i) ∧ (∀ b, b ≠ t → gB σ' 4 b = gB σ 4 b) ∧ gB σ' 4 t 0 0 = true) ∧
  ((∀ j, j ∉ [28, 29, 30, 31, 49, 50, 51, 52, 53, 54, 55, 56, 57, 58, 59, 60] → gI τ' 12 0 0 j = gI τ 12 0 0 j) ∧ gL τ' 12 0 0 = gL τ 12 0 0 ∧ (∀ j, j ≠ 48 → gB τ' 12 0 0 j = gB τ 12 0 0 j) ∧ (∀ p, p ≠ 5 → p ≠ 0 → gI τ' 12 0 p = gI τ 12 0 p ∧ gL τ' 12 0 p = gL τ 12 0 p))
theorem cBeg_FC : FC [4, 6, 7] σ (cBeg σ t k) := by repeat' first | exact FC.z | refine FC.sI ?_ (by decide) | refine FC.sL ?_ (by decide) | refine FC.sB ?_ (by decide)
theorem cBeg_TY (b : Nat) : TY (cBeg σ t k) b = TY σ b := by simp (disch := decide) only [TY, rI_s, rI_n, rI_f, rI_a, rI_c, rL_s, rL_n, rL_f, rL_a, rL_c, rB_s, rB_n, rB_a, rR_s, rR_n, gI_sL, gI_sB, gI_sR, gL_sI, gL_sB, gL_sR, gB_sI, gB_sL, gB_sR, gR_sI, gR_sL, gR_sB]
theorem cBeg_4 {b i : Nat} (hb : b ≠ t) : gI (cBeg σ t k) 4 b i = gI σ 4 b i := by
  simp only [cBeg, rI_a (show (4 : Nat) ≠ 6 by decide), gI_sI, gI_sB, hb, false_and, and_false, if_false]
theorem pl_beg (ht : TentT (gI σ 9 u) (gI τ 12 0 5)) (h0 : gI σ 9 u 0 0 = gI τ 12 0 5 0) (o : TentOk (gI τ 12 0 5)) (ta : TallyR (TY σ y) (gI τ 12 0 5)) (hk : k < 65536) : PlR t u y (gI τ 12 0 5) (cBeg σ t k) (mBeg τ k) := by
  unfold PlR
  rw [mBeg_c]
  refine ⟨⟨ht.fc cBeg_FC (by decide), by rw [cBeg_FC.fI 9 u 0 (by decide)]; exact h0, o, by rw [cBeg_TY]; exact ta, Agr.z⟩, ⟨?_, ?_, ?_, ?_, ?_, ?_⟩, ⟨k, hk, ?_, ?_⟩, ⟨0, ?_, ?_, ?_⟩, ⟨?_, ?_⟩, ⟨?_, ?_, ?_⟩, ?_⟩
  · simp (disch := decide) only [rI_s, rI_n, rI_f, rI_a, rI_c, rL_s, rL_n, rL_f, rL_a, rL_c, rB_s, rB_n, rB_a, rR_s, rR_n, gI_sL, gI_sB, gI_sR, gL_sI, gL_sB, gL_sR, gB_sI, gB_sL, gB_sR, gR_sI, gR_sL, gR_sB]
  · simp (disch := decide) only [rI_s, rI_n, rI_f, rI_a, rI_c, rL_s, rL_n, rL_f, rL_a, rL_c, rB_s, rB_n, rB_a, rR_s, rR_n, gI_sL, gI_sB, gI_sR, gL_sI, gL_sB, gL_sR, gB_sI, gB_sL, gB_sR, gR_sI, gR_sL, gR_sB]
  · simp (disch := decide) only [rI_s, rI_n, rI_f, rI_a, rI_c, rL_s, rL_n, rL_f, rL_a, rL_c, rB_s, rB_n, rB_a, rR_s, rR_n, gI_sL, gI_sB, gI_sR, gL_sI, gL_sB, gL_sR, gB_sI, gB_sL, gB_sR, gR_sI, gR_sL, gR_sB]
  · simp (disch := decide) only [rI_s, rI_n, rI_f, rI_a, rI_c, rL_s, rL_n, rL_f, rL_a, rL_c, rB_s, rB_n, rB_a, rR_s, rR_n, gI_sL, gI_sB, gI_sR, gL_sI, gL_sB, gL_sR, gB_sI, gB_sL, gB_sR, gR_sI, gR_sL, gR_sB]
  · simp (disch := decide) only [rI_s, rI_n, rI_f, rI_a, rI_c, rL_s, rL_n, rL_f, rL_a, rL_c, rB_s, rB_n, rB_a, rR_s, rR_n, gI_sL, gI_sB, gI_sR, gL_sI, gL_sB, gL_sR, gB_sI, gB_sL, gB_sR, gR_sI, gR_sL, gR_sB]
  · simp (disch := decide) only [rI_s, rI_n, rI_f, rI_a, rI_c, rL_s, rL_n, rL_f, rL_a, rL_c, rB_s, rB_n, rB_a, rR_s, rR_n, gI_sL, gI_sB, gI_sR, gL_sI, gL_sB, gL_sR, gB_sI, gB_sL, gB_sR, gR_sI, gR_sL, gR_sB]
  · simp (disch := decide) only [rI_s, rI_n, rI_f, rI_a, rI_c, rL_s, rL_n, rL_f, rL_a, rL_c, rB_s, rB_n, rB_a, rR_s, rR_n, gI_sL, gI_sB, gI_sR, gL_sI, gL_sB, gL_sR, gB_sI, gB_sL, gB_sR, gR_sI, gR_sL, gR_sB]
  · simp (disch := decide) only [rI_s, rI_n, rI_f, rI_a, rI_c, rL_s, rL_n, rL_f, rL_a, rL_c, rB_s, rB_n, rB_a, rR_s, rR_n, gI_sL, gI_sB, gI_sR, gL_sI, gL_sB, gL_sR, gB_sI, gB_sL, gB_sR, gR_sI, gR_sL, gR_sB]
  · simp (disch := decide) only [rI_s, rI_n, rI_f, rI_a, rI_c, rL_s, rL_n, rL_f, rL_a, rL_c, rB_s, rB_n, rB_a, rR_s, rR_n, gI_sL, gI_sB, gI_sR, gL_sI, gL_sB, gL_sR, gB_sI, gB_sL, gB_sR, gR_sI, gR_sL, gR_sB] <;> rfl
  · simp (disch := decide) only [rI_s, rI_n, rI_f, rI_a, rI_c, rL_s, rL_n, rL_f, rL_a, rL_c, rB_s, rB_n, rB_a, rR_s, rR_n, gI_sL, gI_sB, gI_sR, gL_sI, gL_sB, gL_sR, gB_sI, gB_sL, gB_sR, gR_sI, gR_sL, gR_sB] <;> rfl
  · by_cases z : nat (gI τ 12 0 5 5) = 0
    · exact .inr ⟨rfl, z⟩
    · exact .inl (by omega)
  · simp (disch := decide) only [rI_s, rI_n, rI_f, rI_a, rI_c, rL_s, rL_n, rL_f, rL_a, rL_c, rB_s, rB_n, rB_a, rR_s, rR_n, gI_sL, gI_sB, gI_sR, gL_sI, gL_sB, gL_sR, gB_sI, gB_sL, gB_sR, gR_sI, gR_sL, gR_sB]
  · simp (disch := decide) only [rI_s, rI_n, rI_f, rI_a, rI_c, rL_s, rL_n, rL_f, rL_a, rL_c, rB_s, rB_n, rB_a, rR_s, rR_n, gI_sL, gI_sB, gI_sR, gL_sI, gL_sB, gL_sR, gB_sI, gB_sL, gB_sR, gR_sI, gR_sL, gR_sB]
  · simp (disch := decide) only [rI_s, rI_n, rI_f, rI_a, rI_c, rL_s, rL_n, rL_f, rL_a, rL_c, rB_s, rB_n, rB_a, rR_s, rR_n, gI_sL, gI_sB, gI_sR, gL_sI, gL_sB, gL_sR, gB_sI, gB_sL, gB_sR, gR_sI, gR_sL, gR_sB]
  · simp (disch := decide) only [rI_s, rI_n, rI_f, rI_a, rI_c, rL_s, rL_n, rL_f, rL_a, rL_c, rB_s, rB_n, rB_a, rR_s, rR_n, gI_sL, gI_sB, gI_sR, gL_sI, gL_sB, gL_sR, gB_sI, gB_sL, gB_sR, gR_sI, gR_sL, gR_sB] <;> decide
  · simp (disch := decide) only [rI_s, rI_n, rI_f, rI_a, rI_c, rL_s, rL_n, rL_f, rL_a, rL_c, rB_s, rB_n, rB_a, rR_s, rR_n, gI_sL, gI_sB, gI_sR, gL_sI, gL_sB, gL_sR, gB_sI, gB_sL, gB_sR, gR_sI, gR_sL, gR_sB] <;> decide
  · simp (disch := decide) only [rI_s, rI_n, rI_f, rI_a, rI_c, rL_s, rL_n, rL_f, rL_a, rL_c, rB_s, rB_n, rB_a, rR_s, rR_n, gI_sL, gI_sB, gI_sR, gL_sI, gL_sB, gL_sR, gB_sI, gB_sL, gB_sR, gR_sI, gR_sL, gR_sB]
theorem al_324 {f : Nat → Int32} : ald 3000 f (324 : Int32) = some (f 324) := ald_nI (k := 324) (by omega) (by omega)
theorem al_323 {f : Nat → Int32} : ald 3000 f (323 : Int32) = some (f 323) := ald_nI (k := 323) (by omega) (by omega)
/-- a whole game, on both sides -/
theorem pl_run (ht : TentT (gI σ 9 u) (gI τ 12 0 5)) (h0 : gI σ 9 u 0 0 = gI τ 12 0 5 0) (o : TentOk (gI τ 12 0 5)) (ta : TallyR (TY σ y) (gI τ 12 0 5)) (hk : k < 65536)
    {N P : Nat} (hN : N ≤ 30) (hP : P ≤ 60) (eN : gI τ 12 0 5 324 = nI N) (eP : gI σ 5 r 0 2 = nI P) (sg : Seg (gI σ 5 r) (gI τ 12 0 5) 31 3 0 N 0 P) :
    ∃ σ' τ', F4_run σ t r u y (nI k) = some ((), σ') ∧ F12_plays τ (nI k) = some ((), τ') ∧ PlK t y σ τ σ' τ' ∧ PlR t u y (gI τ 12 0 5) σ' τ' := by
  have hb := pl_beg (t := t) ht h0 o ta hk
  have e5 : gI (cBeg σ t k) 5 r = gI σ 5 r := by funext j; exact cBeg_FC.fI 5 r j (by decide)
  have rs := run_seg (t := t) (u := u) (y := y) (r := r) hP eP _ _ _ _ _ _ sg
  have b48 : gB (mBeg τ k) 12 0 0 48 = false := by simp (disch := decide) only [rI_s, rI_n, rI_f, rI_a, rI_c, rL_s, rL_n, rL_f, rL_a, rL_c, rB_s, rB_n, rB_a, rR_s, rR_n, gI_sL, gI_sB, gI_sR, gL_sI, gL_sB, gL_sR, gB_sI, gB_sL, gB_sR, gR_sI, gR_sL, gR_sB]
  have b50 : gI (mBeg τ k) 12 0 0 50 = nI 0 := by simp (disch := decide) only [rI_s, rI_n, rI_f, rI_a, rI_c, rL_s, rL_n, rL_f, rL_a, rL_c, rB_s, rB_n, rB_a, rR_s, rR_n, gI_sL, gI_sB, gI_sR, gL_sI, gL_sB, gL_sR, gB_sI, gB_sL, gB_sR, gR_sI, gR_sL, gR_sB] <;> rfl
  obtain ⟨σ', τ', ⟨g, pr, out⟩, al⟩ := rs hN (Nat.le_refl P) 7 (by omega) (cBeg σ t k) (mBeg τ k) 0 0 e5 hb b48 b50 (by omega) (by omega)
  refine ⟨σ', τ', ?_, ?_, ?_, pr⟩
  · unfold F4_run
    rw [c_begin4, bd_some, show (0 : Int32) = nI 0 from rfl]
    have fl := fuel_big
    rcases out with ⟨M, k', a1, a2, a3, a4, a5, a6, a7⟩ | ⟨a1, M, a2, a3⟩
    · obtain ⟨f, hf⟩ : ∃ f, fuelK = f + 1 + M := ⟨fuelK - 1 - M, by omega⟩
      rw [hf, a4, Nat.zero_add]
      have e5' : gI σ' 5 r 0 2 = nI P := by rw [g.1.1.fI 5 r 0 (by decide), e5]; exact eP
      simp only [F4_run_L12.eq_2]
      rw [if_neg (show ¬ (1000000 : Int32) ≤ nI M from nI_ge (a := M) (b := 1000000) (by omega) (by omega)), if_neg (nI_pos (by omega)), e5', if_pos (Int32.le_refl _)]
    · obtain ⟨f, hf⟩ : ∃ f, fuelK = f + M + 1 := ⟨fuelK - M - 1, by omega⟩
      rw [hf]; exact a3 f
  · rw [m_plays, al_324, Option.bind_some, mBeg_c, eN]
    have : F12_doAll (mBeg τ k) 0 (nI N) = some ((), τ') := by
      show O12_doAll (fun s y => O12_doOne (R12_doAll 7) s y) (mBeg τ k) (nI 0) (nI N) = _
      unfold O12_doAll
      rw [al fuelK (fuelK_lt (by omega)), bd_some]
    rw [this, bd_some]
  · obtain ⟨⟨g1, g2, g3, g4⟩, g5, g6, g7, g8⟩ := g
    refine ⟨⟨cBeg_FC.t g1, fun b hb => (g2 b hb).trans (cBeg_TY b), fun b i hb => (g3 b i hb).trans (cBeg_4 hb), fun b hb => ?_, ?_⟩, fun j hj => ?_, ?_, fun j hj => ?_, fun p hp h0 => ⟨?_, ?_⟩⟩
    · rw [g4]; funext i; simp [cBeg, gB_sI, gB_sB, hb]
    · rw [g4]; simp (disch := decide) only [rI_s, rI_n, rI_f, rI_a, rI_c, rL_s, rL_n, rL_f, rL_a, rL_c, rB_s, rB_n, rB_a, rR_s, rR_n, gI_sL, gI_sB, gI_sR, gL_sI, gL_sB, gL_sR, gB_sI, gB_sL, gB_sR, gR_sI, gR_sL, gR_sB]
    · rw [g5 j hj]
      have hj' : j ≠ 49 ∧ j ≠ 50 ∧ j ≠ 51 ∧ j ≠ 52 ∧ j ≠ 53 ∧ j ≠ 54 ∧ j ≠ 55 ∧ j ≠ 56 ∧ j ≠ 57 ∧ j ≠ 58 ∧ j ≠ 59 ∧ j ≠ 60 := by
        refine ⟨?_, ?_, ?_, ?_, ?_, ?_, ?_, ?_, ?_, ?_, ?_, ?_⟩ <;> (intro e; subst e; exact hj (by decide))
      obtain ⟨j1, j2, j3, j4, j5, j6, j7, j8, j9, j10, j11, j12⟩ := hj'
      rw [gI_sB, rI_n j12, rI_n j11, rI_n j10, rI_n j9, rI_n j8, rI_n j7, rI_n j6, rI_n j5, rI_n j4, rI_n j3, rI_n j2, rI_n j1]
    · rw [g6]; rfl
    · rw [g7 j hj, rB_n hj]; rfl
    · rw [(g8 p hp h0).1, gI_sB, rI_c h0, rI_c h0, rI_c h0, rI_c h0, rI_c h0, rI_c h0, rI_c h0, rI_c h0, rI_c h0, rI_c h0, rI_c h0, rI_c h0]
    · rw [(g8 p hp h0).2]; rfl
end PBE
section PLY
variable {σC σM : Mem}
abbrev mEnd (τ : Mem) : Mem := sB (sI (sI (sI (sI (sI τ 12 0 12 0 (gI τ 12 0 0 51)) 12 0 12 1 (gI τ 12 0 0 52)) 12 0 12 2 (gI τ 12 0 0 53)) 12 0 12 3 (gI τ 12 0 0 54)) 12 0 12 4 (gI τ 12 0 0 55)) 12 0 0 47 true
theorem st_play (h : Rel σC σM) (x1 : Int32) : Stq (F11_play σC x1) (F12_play σM x1) := by
  unfold F11_play F12_play
  rw [bnd_mS, wi_0_9999]
  by_cases g1 : ¬ F11_within x1 0 9999 = true
  · simp only [g1, ↓reduceIte, if_false, Bool.false_and, Bool.and_false, Bool.true_and, Bool.and_true, Bool.false_eq_true, if_true, Bool.and_self, ans_eq, ref_eq, agr_eq, den_eq, mref_eq, mno_eq, bd_some, Option.bind_some, ne_2_0, ne_5_0]
    exact ⟨_, _, _, rfl, rfl, h.no 5⟩
  replace g1 := Decidable.not_not.mp g1
  have w := wn_int g1
  have e0 : (0 : Int32).toInt = 0 := rfl
  have e4 : (9999 : Int32).toInt = 9999 := rfl
  obtain ⟨k, hk, rfl⟩ := i32_ex (x := x1) 9999 (by omega) (by omega)
  rw [if_pos g1, if_pos g1, gd_at h.r5, al_323, Option.bind_some, mS_c]
  rcases h.rnd with ⟨r1, r2⟩ | ⟨r1, r2, N, P, r3, r4, r5, r6, r7, r8⟩
  · rw [r1, if_neg (by decide), r2, if_pos rfl, ref_eq, mref_eq, bd_some, bd_some]
    exact ⟨_, _, _, rfl, rfl, h.no 8⟩
  rw [r1, if_pos rfl, r2, if_neg (by decide), gd_at h.r5, gd_at h.t5]
  have mc : gI (mS σM) 12 0 5 = gI σM 12 0 5 := mS_c
  obtain ⟨σ', τ', o1, o2, ⟨⟨f1, f2, f3, f4, f5⟩, g1', g2', g3', g4'⟩, pr⟩ := pl_run (σ := σC) (τ := mS σM) (t := 0) (y := 0) (u := gR σC 11 0 0 5) (r := gR σC 11 0 0 7) (k := k) (by rw [mc]; exact h.tt) (by rw [mc]; exact h.t0) (by rw [mc]; exact h.ok5) (by rw [mc]; exact h.ta) (by omega) r3 r4 (by rw [mc]; exact r6) r7 (by rw [mc]; exact r8)
  rw [mc] at pr
  rw [o1, bd_some, o2, bd_some, ans_eq, bd_some]
  obtain ⟨⟨k1, k2, k3, k4, k5⟩, ⟨a1, a2, a3, a4, a5, a6⟩, -⟩ := pr
  have c0 : ∀ {e : Option (Int32 × Mem)}, chk 5 (0 : Int32) e = e := chk_nI (k := 0) (by omega) (by omega)
  have c1 : ∀ {e : Option (Int32 × Mem)}, chk 5 (1 : Int32) e = e := chk_nI (k := 1) (by omega) (by omega)
  have c2 : ∀ {e : Option (Int32 × Mem)}, chk 5 (2 : Int32) e = e := chk_nI (k := 2) (by omega) (by omega)
  have c3 : ∀ {e : Option (Int32 × Mem)}, chk 5 (3 : Int32) e = e := chk_nI (k := 3) (by omega) (by omega)
  have c4 : ∀ {e : Option (Int32 × Mem)}, chk 5 (4 : Int32) e = e := chk_nI (k := 4) (by omega) (by omega)
  rw [c0, bnd_eq, c1, bnd_eq, c2, bnd_eq, c3, bnd_eq, c4, bnd_eq, bnd_eq]
  have s0 : Int32.toNatClampNeg 0 = 0 := rfl
  have s1 : Int32.toNatClampNeg 1 = 1 := rfl
  have s2 : Int32.toNatClampNeg 2 = 2 := rfl
  have s3 : Int32.toNatClampNeg 3 = 3 := rfl
  have s4 : Int32.toNatClampNeg 4 = 4 := rfl
  rw [s0, s1, s2, s3, s4]
  have m0 : ∀ j, j ≠ 0 → j ≠ 1 → gI (mS σM) 12 0 0 j = gI σM 12 0 0 j := fun j h0 h1 => by rw [rI_n h0, rI_n h1]
  refine ⟨gI σ' 4 0 0 1, _, mEnd τ', rfl, ?_, RelP.st (h.1.main f1 (by decide) (by decide) (by decide) (by decide) (by decide) (fun i => f2 _ (by omega)) ⟨?_, ?_, ?_, ?_, ?_⟩ ⟨?_, ?_, ?_, ?_⟩ ?_ ?_ ⟨?_, fun _ => ⟨?_, ?_, ?_, ?_, ?_⟩⟩) ?_ ?_ ?_⟩
  · refine congrArg some (Prod.ext ?_ rfl)
    show gI (mEnd τ') 12 0 0 50 = _
    simp (disch := decide) only [rI_s, rI_n, rI_f, rI_a, rI_c, rL_s, rL_n, rL_f, rL_a, rL_c, rB_s, rB_n, rB_a, rR_s, rR_n, gI_sL, gI_sB, gI_sR, gL_sI, gL_sB, gL_sR, gB_sI, gB_sL, gB_sR, gR_sI, gR_sL, gR_sB]
    exact a1.symm
  · simp (disch := decide) only [rI_s, rI_n, rI_f, rI_a, rI_c, rL_s, rL_n, rL_f, rL_a, rL_c, rB_s, rB_n, rB_a, rR_s, rR_n, gI_sL, gI_sB, gI_sR, gL_sI, gL_sB, gL_sR, gB_sI, gB_sL, gB_sR, gR_sI, gR_sL, gR_sB]; rw [(g4' 1 (by decide) (by decide)).1]; simp (disch := decide) only [rI_s, rI_n, rI_f, rI_a, rI_c, rL_s, rL_n, rL_f, rL_a, rL_c, rB_s, rB_n, rB_a, rR_s, rR_n, gI_sL, gI_sB, gI_sR, gL_sI, gL_sB, gL_sR, gB_sI, gB_sL, gB_sR, gR_sI, gR_sL, gR_sB]
  · simp (disch := decide) only [rI_s, rI_n, rI_f, rI_a, rI_c, rL_s, rL_n, rL_f, rL_a, rL_c, rB_s, rB_n, rB_a, rR_s, rR_n, gI_sL, gI_sB, gI_sR, gL_sI, gL_sB, gL_sR, gB_sI, gB_sL, gB_sR, gR_sI, gR_sL, gR_sB]; rw [(g4' 2 (by decide) (by decide)).1]; simp (disch := decide) only [rI_s, rI_n, rI_f, rI_a, rI_c, rL_s, rL_n, rL_f, rL_a, rL_c, rB_s, rB_n, rB_a, rR_s, rR_n, gI_sL, gI_sB, gI_sR, gL_sI, gL_sB, gL_sR, gB_sI, gB_sL, gB_sR, gR_sI, gR_sL, gR_sB]
  · simp (disch := decide) only [rI_s, rI_n, rI_f, rI_a, rI_c, rL_s, rL_n, rL_f, rL_a, rL_c, rB_s, rB_n, rB_a, rR_s, rR_n, gI_sL, gI_sB, gI_sR, gL_sI, gL_sB, gL_sR, gB_sI, gB_sL, gB_sR, gR_sI, gR_sL, gR_sB]; rw [(g4' 3 (by decide) (by decide)).2]; simp (disch := decide) only [rI_s, rI_n, rI_f, rI_a, rI_c, rL_s, rL_n, rL_f, rL_a, rL_c, rB_s, rB_n, rB_a, rR_s, rR_n, gI_sL, gI_sB, gI_sR, gL_sI, gL_sB, gL_sR, gB_sI, gB_sL, gB_sR, gR_sI, gR_sL, gR_sB]
  · simp (disch := decide) only [rI_s, rI_n, rI_f, rI_a, rI_c, rL_s, rL_n, rL_f, rL_a, rL_c, rB_s, rB_n, rB_a, rR_s, rR_n, gI_sL, gI_sB, gI_sR, gL_sI, gL_sB, gL_sR, gB_sI, gB_sL, gB_sR, gR_sI, gR_sL, gR_sB]; rw [(g4' 4 (by decide) (by decide)).1]; simp (disch := decide) only [rI_s, rI_n, rI_f, rI_a, rI_c, rL_s, rL_n, rL_f, rL_a, rL_c, rB_s, rB_n, rB_a, rR_s, rR_n, gI_sL, gI_sB, gI_sR, gL_sI, gL_sB, gL_sR, gB_sI, gB_sL, gB_sR, gR_sI, gR_sL, gR_sB]
  · simp (disch := decide) only [rI_s, rI_n, rI_f, rI_a, rI_c, rL_s, rL_n, rL_f, rL_a, rL_c, rB_s, rB_n, rB_a, rR_s, rR_n, gI_sL, gI_sB, gI_sR, gL_sI, gL_sB, gL_sR, gB_sI, gB_sL, gB_sR, gR_sI, gR_sL, gR_sB]; rw [(g4' 7 (by decide) (by decide)).2]; simp (disch := decide) only [rI_s, rI_n, rI_f, rI_a, rI_c, rL_s, rL_n, rL_f, rL_a, rL_c, rB_s, rB_n, rB_a, rR_s, rR_n, gI_sL, gI_sB, gI_sR, gL_sI, gL_sB, gL_sR, gB_sI, gB_sL, gB_sR, gR_sI, gR_sL, gR_sB]
  · simp (disch := decide) only [rI_s, rI_n, rI_f, rI_a, rI_c, rL_s, rL_n, rL_f, rL_a, rL_c, rB_s, rB_n, rB_a, rR_s, rR_n, gI_sL, gI_sB, gI_sR, gL_sI, gL_sB, gL_sR, gB_sI, gB_sL, gB_sR, gR_sI, gR_sL, gR_sB]; rw [g1' 8 (by decide), m0 8 (by decide) (by decide)]
  · simp (disch := decide) only [rI_s, rI_n, rI_f, rI_a, rI_c, rL_s, rL_n, rL_f, rL_a, rL_c, rB_s, rB_n, rB_a, rR_s, rR_n, gI_sL, gI_sB, gI_sR, gL_sI, gL_sB, gL_sR, gB_sI, gB_sL, gB_sR, gR_sI, gR_sL, gR_sB]; rw [g1' 10 (by decide), m0 10 (by decide) (by decide)]
  · simp (disch := decide) only [rI_s, rI_n, rI_f, rI_a, rI_c, rL_s, rL_n, rL_f, rL_a, rL_c, rB_s, rB_n, rB_a, rR_s, rR_n, gI_sL, gI_sB, gI_sR, gL_sI, gL_sB, gL_sR, gB_sI, gB_sL, gB_sR, gR_sI, gR_sL, gR_sB]; rw [g1' 11 (by decide), m0 11 (by decide) (by decide)]
  · simp (disch := decide) only [rI_s, rI_n, rI_f, rI_a, rI_c, rL_s, rL_n, rL_f, rL_a, rL_c, rB_s, rB_n, rB_a, rR_s, rR_n, gI_sL, gI_sB, gI_sR, gL_sI, gL_sB, gL_sR, gB_sI, gB_sL, gB_sR, gR_sI, gR_sL, gR_sB]; rw [g1' 23 (by decide), m0 23 (by decide) (by decide)]
  · simp (disch := decide) only [rI_s, rI_n, rI_f, rI_a, rI_c, rL_s, rL_n, rL_f, rL_a, rL_c, rB_s, rB_n, rB_a, rR_s, rR_n, gI_sL, gI_sB, gI_sR, gL_sI, gL_sB, gL_sR, gB_sI, gB_sL, gB_sR, gR_sI, gR_sL, gR_sB]; exact k5
  · simp (disch := decide) only [rI_s, rI_n, rI_f, rI_a, rI_c, rL_s, rL_n, rL_f, rL_a, rL_c, rB_s, rB_n, rB_a, rR_s, rR_n, gI_sL, gI_sB, gI_sR, gL_sI, gL_sB, gL_sR, gB_sI, gB_sL, gB_sR, gR_sI, gR_sL, gR_sB]; exact k4
  · rw [f5]; simp (disch := decide) only [rI_s, rI_n, rI_f, rI_a, rI_c, rL_s, rL_n, rL_f, rL_a, rL_c, rB_s, rB_n, rB_a, rR_s, rR_n, gI_sL, gI_sB, gI_sR, gL_sI, gL_sB, gL_sR, gB_sI, gB_sL, gB_sR, gR_sI, gR_sL, gR_sB]
  · simp (disch := decide) only [rI_s, rI_n, rI_f, rI_a, rI_c, rL_s, rL_n, rL_f, rL_a, rL_c, rB_s, rB_n, rB_a, rR_s, rR_n, gI_sL, gI_sB, gI_sR, gL_sI, gL_sB, gL_sR, gB_sI, gB_sL, gB_sR, gR_sI, gR_sL, gR_sB]; exact a2
  · simp (disch := decide) only [rI_s, rI_n, rI_f, rI_a, rI_c, rL_s, rL_n, rL_f, rL_a, rL_c, rB_s, rB_n, rB_a, rR_s, rR_n, gI_sL, gI_sB, gI_sR, gL_sI, gL_sB, gL_sR, gB_sI, gB_sL, gB_sR, gR_sI, gR_sL, gR_sB]; exact a3
  · simp (disch := decide) only [rI_s, rI_n, rI_f, rI_a, rI_c, rL_s, rL_n, rL_f, rL_a, rL_c, rB_s, rB_n, rB_a, rR_s, rR_n, gI_sL, gI_sB, gI_sR, gL_sI, gL_sB, gL_sR, gB_sI, gB_sL, gB_sR, gR_sI, gR_sL, gR_sB]; exact a4
  · simp (disch := decide) only [rI_s, rI_n, rI_f, rI_a, rI_c, rL_s, rL_n, rL_f, rL_a, rL_c, rB_s, rB_n, rB_a, rR_s, rR_n, gI_sL, gI_sB, gI_sR, gL_sI, gL_sB, gL_sR, gB_sI, gB_sL, gB_sR, gR_sI, gR_sL, gR_sB]; exact a5
  · simp (disch := decide) only [rI_s, rI_n, rI_f, rI_a, rI_c, rL_s, rL_n, rL_f, rL_a, rL_c, rB_s, rB_n, rB_a, rR_s, rR_n, gI_sL, gI_sB, gI_sR, gL_sI, gL_sB, gL_sR, gB_sI, gB_sL, gB_sR, gR_sI, gR_sL, gR_sB]; exact a6
  · simp (disch := decide) only [rI_s, rI_n, rI_f, rI_a, rI_c, rL_s, rL_n, rL_f, rL_a, rL_c, rB_s, rB_n, rB_a, rR_s, rR_n, gI_sL, gI_sB, gI_sR, gL_sI, gL_sB, gL_sR, gB_sI, gB_sL, gB_sR, gR_sI, gR_sL, gR_sB]; rw [g1' 0 (by decide)]; exact rI_s
  · simp (disch := decide) only [rI_s, rI_n, rI_f, rI_a, rI_c, rL_s, rL_n, rL_f, rL_a, rL_c, rB_s, rB_n, rB_a, rR_s, rR_n, gI_sL, gI_sB, gI_sR, gL_sI, gL_sB, gL_sR, gB_sI, gB_sL, gB_sR, gR_sI, gR_sL, gR_sB]; rw [g2', f1.fL 11 0 0 (by decide), h.2.2.1]; rfl
  · simp (disch := decide) only [rI_s, rI_n, rI_f, rI_a, rI_c, rL_s, rL_n, rL_f, rL_a, rL_c, rB_s, rB_n, rB_a, rR_s, rR_n, gI_sL, gI_sB, gI_sR, gL_sI, gL_sB, gL_sR, gB_sI, gB_sL, gB_sR, gR_sI, gR_sL, gR_sB]; rw [g2', f1.fL 11 0 0 (by decide), h.2.2.2]; rfl
end PLY
