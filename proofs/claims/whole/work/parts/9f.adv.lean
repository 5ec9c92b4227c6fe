/-! PURE. tent, round: the next token, on both sides. -/
section ADV
variable {σ τ σ1 τ1 : Mem} {L e s : Nat}
/-- both are at the same token, from s to e -/
def TkR (L s e : Nat) (σ τ : Mem) : Prop :=
  (gI σ 8 0 0 4 = gI τ 12 0 0 14 ∧ gI σ 8 0 0 12 = nI s ∧ gI τ 12 0 0 15 = nI s ∧ s ≤ L ∧ (¬ gI τ 12 0 0 14 = 0 → s < L)) ∧
  gI σ 8 0 0 5 = wix τ ∧ gI σ 8 0 0 8 = (if gI τ 12 0 0 14 = 3 then gI τ 12 0 0 17 else -1) ∧
  (gI τ 12 0 0 14 = 2 → gI σ 8 0 0 7 = gI τ 12 0 0 17) ∧
  (gI τ 12 0 0 14 = 1 → (8 < gI τ 12 0 0 18 → gL σ 8 0 0 6 = 0) ∧ (¬ 8 < gI τ 12 0 0 18 → gL σ 8 0 0 6 = gL τ 12 0 0 19 ∧ ¬ gL τ 12 0 0 19 = 0)) ∧
  (¬ gI τ 12 0 0 14 = 0 → ¬ gI τ 12 0 0 14 = 4 → s < e ∧ e ≤ L ∧ gI σ 8 0 0 11 = nI e ∧ gI τ 12 0 0 16 = nI e)
/-- a token is scanned: the class behind the blanks -/
abbrev cA (σ : Mem) (s : Nat) : Mem := sI (sI (sL (sI (sI (sI σ 8 0 0 11 (nI s)) 8 0 0 12 (nI s)) 8 0 0 5 (-1)) 8 0 0 6 0) 8 0 0 7 (-1)) 8 0 0 8 (-1)
abbrev mA (τ : Mem) (s : Nat) : Mem := sI (sI τ 12 0 0 15 (nI s)) 12 0 0 16 (nI s)
theorem cA_CT : CT σ (cA σ s) := ((((((CT.z.I (by decide)).I (by decide)).I (by decide)).wL).I (by decide)).I (by decide))
theorem mA_FM : FM [14, 15, 16, 17, 18] [19] [] τ (mA τ s) := FM.sI (FM.I (by decide)) (by decide)
/-- the next token: what both come to -/
def Adv (L e : Nat) (σ τ : Mem) (X : Option (Unit × Mem)) (Y : Option (Unit × Mem)) : Prop :=
  ∃ σ' τ' s' e', X = some ((), σ') ∧ Y = some ((), τ') ∧ e ≤ s' ∧ TkR L s' e' σ' τ' ∧ CT σ σ' ∧ FM [14, 15, 16, 17, 18] [19] [] τ τ'
theorem adv_end (hs : e ≤ L) : Adv L e σ τ (some ((), sI (cA σ L) 8 0 0 4 0)) (some ((), sI (mA τ L) 12 0 0 14 0)) := by
  refine ⟨_, _, L, L, rfl, rfl, hs, ⟨⟨?_, ?_, ?_, Nat.le_refl L, fun h => absurd rI_s h⟩, ?_, ?_, ?_, ?_, ?_⟩, cA_CT.I (by decide), FM.sI mA_FM (by decide)⟩
  · rw [rI_s, rI_s]
  · simp (disch := decide) only [rI_s, rI_n, rI_f, rI_a, rI_c, rL_s, rL_n, rL_f, rL_a, rL_c, rB_s, rB_n, rB_a, rR_s, rR_n, gI_sL, gI_sB, gI_sR, gL_sI, gL_sB, gL_sR, gB_sI, gB_sL, gB_sR, gR_sI, gR_sL, gR_sB]
  · simp (disch := decide) only [rI_s, rI_n, rI_f, rI_a, rI_c, rL_s, rL_n, rL_f, rL_a, rL_c, rB_s, rB_n, rB_a, rR_s, rR_n, gI_sL, gI_sB, gI_sR, gL_sI, gL_sB, gL_sR, gB_sI, gB_sL, gB_sR, gR_sI, gR_sL, gR_sB]
  · unfold wix
    simp (disch := decide) only [rI_s, rI_n, rI_f, rI_a, rI_c, rL_s, rL_n, rL_f, rL_a, rL_c, rB_s, rB_n, rB_a, rR_s, rR_n, gI_sL, gI_sB, gI_sR, gL_sI, gL_sB, gL_sR, gB_sI, gB_sL, gB_sR, gR_sI, gR_sL, gR_sB, if_neg]
  · simp (disch := decide) only [rI_s, rI_n, rI_f, rI_a, rI_c, rL_s, rL_n, rL_f, rL_a, rL_c, rB_s, rB_n, rB_a, rR_s, rR_n, gI_sL, gI_sB, gI_sR, gL_sI, gL_sB, gL_sR, gB_sI, gB_sL, gB_sR, gR_sI, gR_sL, gR_sB, if_neg]
  · intro h; rw [rI_s] at h; exact absurd h (by decide)
  · intro h; rw [rI_s] at h; exact absurd h (by decide)
  · intro h; rw [rI_s] at h; exact absurd rfl h
theorem adv_bad {v : Int32} (hs : e ≤ s) (hL : s < L) : Adv L e σ τ (some ((), sI (cA σ s) 8 0 0 4 4)) (some ((), sI (sI (sI (mA τ s) 12 0 0 16 (nI (s + 1))) 12 0 0 17 v) 12 0 0 14 4)) := by
  refine ⟨_, _, s, s, rfl, rfl, hs, ⟨⟨?_, ?_, ?_, by omega, fun _ => hL⟩, ?_, ?_, ?_, ?_, ?_⟩, cA_CT.I (by decide), FM.sI (FM.sI (FM.sI mA_FM (by decide)) (by decide)) (by decide)⟩
  · rw [rI_s, rI_s]
  · simp (disch := decide) only [rI_s, rI_n, rI_f, rI_a, rI_c, rL_s, rL_n, rL_f, rL_a, rL_c, rB_s, rB_n, rB_a, rR_s, rR_n, gI_sL, gI_sB, gI_sR, gL_sI, gL_sB, gL_sR, gB_sI, gB_sL, gB_sR, gR_sI, gR_sL, gR_sB]
  · simp (disch := decide) only [rI_s, rI_n, rI_f, rI_a, rI_c, rL_s, rL_n, rL_f, rL_a, rL_c, rB_s, rB_n, rB_a, rR_s, rR_n, gI_sL, gI_sB, gI_sR, gL_sI, gL_sB, gL_sR, gB_sI, gB_sL, gB_sR, gR_sI, gR_sL, gR_sB]
  · unfold wix
    simp (disch := decide) only [rI_s, rI_n, rI_f, rI_a, rI_c, rL_s, rL_n, rL_f, rL_a, rL_c, rB_s, rB_n, rB_a, rR_s, rR_n, gI_sL, gI_sB, gI_sR, gL_sI, gL_sB, gL_sR, gB_sI, gB_sL, gB_sR, gR_sI, gR_sL, gR_sB, if_neg]
  · simp (disch := decide) only [rI_s, rI_n, rI_f, rI_a, rI_c, rL_s, rL_n, rL_f, rL_a, rL_c, rB_s, rB_n, rB_a, rR_s, rR_n, gI_sL, gI_sB, gI_sR, gL_sI, gL_sB, gL_sR, gB_sI, gB_sL, gB_sR, gR_sI, gR_sL, gR_sB, if_neg]
  · intro h; rw [rI_s] at h; exact absurd h (by decide)
  · intro h; rw [rI_s] at h; exact absurd h (by decide)
  · intro h h4; rw [rI_s] at h4; exact absurd rfl h4
theorem adv_sign {v : Int32} (hs : e ≤ s) (hL : s < L) : Adv L e σ τ (some ((), sI (sI (sI (cA σ s) 8 0 0 4 3) 8 0 0 8 v) 8 0 0 11 (nI (s + 1)))) (some ((), sI (sI (sI (mA τ s) 12 0 0 16 (nI (s + 1))) 12 0 0 17 v) 12 0 0 14 3)) := by
  refine ⟨_, _, s, s + 1, rfl, rfl, hs, ⟨⟨?_, ?_, ?_, by omega, fun _ => hL⟩, ?_, ?_, ?_, ?_, fun _ _ => ⟨by omega, by omega, ?_, ?_⟩⟩, ((cA_CT.I (by decide)).I (by decide)).I (by decide), FM.sI (FM.sI (FM.sI mA_FM (by decide)) (by decide)) (by decide)⟩
  · simp (disch := decide) only [rI_s, rI_n, rI_f, rI_a, rI_c, rL_s, rL_n, rL_f, rL_a, rL_c, rB_s, rB_n, rB_a, rR_s, rR_n, gI_sL, gI_sB, gI_sR, gL_sI, gL_sB, gL_sR, gB_sI, gB_sL, gB_sR, gR_sI, gR_sL, gR_sB]
  · simp (disch := decide) only [rI_s, rI_n, rI_f, rI_a, rI_c, rL_s, rL_n, rL_f, rL_a, rL_c, rB_s, rB_n, rB_a, rR_s, rR_n, gI_sL, gI_sB, gI_sR, gL_sI, gL_sB, gL_sR, gB_sI, gB_sL, gB_sR, gR_sI, gR_sL, gR_sB]
  · simp (disch := decide) only [rI_s, rI_n, rI_f, rI_a, rI_c, rL_s, rL_n, rL_f, rL_a, rL_c, rB_s, rB_n, rB_a, rR_s, rR_n, gI_sL, gI_sB, gI_sR, gL_sI, gL_sB, gL_sR, gB_sI, gB_sL, gB_sR, gR_sI, gR_sL, gR_sB]
  · unfold wix
    simp (disch := decide) only [rI_s, rI_n, rI_f, rI_a, rI_c, rL_s, rL_n, rL_f, rL_a, rL_c, rB_s, rB_n, rB_a, rR_s, rR_n, gI_sL, gI_sB, gI_sR, gL_sI, gL_sB, gL_sR, gB_sI, gB_sL, gB_sR, gR_sI, gR_sL, gR_sB, if_neg]
  · simp (disch := decide) only [rI_s, rI_n, rI_f, rI_a, rI_c, rL_s, rL_n, rL_f, rL_a, rL_c, rB_s, rB_n, rB_a, rR_s, rR_n, gI_sL, gI_sB, gI_sR, gL_sI, gL_sB, gL_sR, gB_sI, gB_sL, gB_sR, gR_sI, gR_sL, gR_sB, if_pos]
  · intro h; rw [rI_s] at h; exact absurd h (by decide)
  · intro h; rw [rI_s] at h; exact absurd h (by decide)
  · simp (disch := decide) only [rI_s, rI_n, rI_f, rI_a, rI_c, rL_s, rL_n, rL_f, rL_a, rL_c, rB_s, rB_n, rB_a, rR_s, rR_n, gI_sL, gI_sB, gI_sR, gL_sI, gL_sB, gL_sR, gB_sI, gB_sL, gB_sR, gR_sI, gR_sL, gR_sB]
  · simp (disch := decide) only [rI_s, rI_n, rI_f, rI_a, rI_c, rL_s, rL_n, rL_f, rL_a, rL_c, rB_s, rB_n, rB_a, rR_s, rR_n, gI_sL, gI_sB, gI_sR, gL_sI, gL_sB, gL_sR, gB_sI, gB_sL, gB_sR, gR_sI, gR_sL, gR_sB]
theorem adv_word (tx : TxR L σ τ) (hs : e ≤ s) (hL : s < L) (hc : F8_isLetter (gI τ 12 0 4 s) = true) :
    Adv L e σ τ (F8_scanWord (cA σ s)) (bnd (sI (mA τ s) 12 0 0 14 1) fun s_24 => bnd (sL s_24 12 0 0 19 0) fun s_25 => bd (F12_next_L109 fuelK s_25) fun _ s_33 => bnd (sI s_33 12 0 0 18 ((gI s_33 12 0 0 16) - (gI s_33 12 0 0 15))) fun s_34 => some ((), s_34)) := by
  have hL9 := tx.1
  have t0 : TxR L (cA σ s) (sL (sI (mA τ s) 12 0 0 14 1) 12 0 0 19 0) := tx.f (i := [14, 15, 16, 17, 18]) (l := [19]) cA_CT (FM.sL (FM.sI mA_FM (by decide)) (by decide)) (by decide)
  have b0 : gI (sL (sI (mA τ s) 12 0 0 14 1) 12 0 0 19 0) 12 0 4 = gI τ 12 0 4 := by simp (disch := decide) only [rI_s, rI_n, rI_f, rI_a, rI_c, rL_s, rL_n, rL_f, rL_a, rL_c, rB_s, rB_n, rB_a, rR_s, rR_n, gI_sL, gI_sB, gI_sR, gL_sI, gL_sB, gL_sR, gB_sI, gB_sL, gB_sR, gR_sI, gR_sL, gR_sB]
  obtain ⟨e', y', τ', s1, s2, s3, s4, s5, s6, s7, w1, w2⟩ := scan_word (s := s) (L - s) fuelK fuelK s 0 (cA σ s) (sL (sI (mA τ s) 12 0 0 14 1) 12 0 0 19 0) (by omega) (fuelK_lt (by omega)) (fuelK_lt (by omega)) (Nat.le_refl s) t0 (by simp (disch := decide) only [rI_s, rI_n, rI_f, rI_a, rI_c, rL_s, rL_n, rL_f, rL_a, rL_c, rB_s, rB_n, rB_a, rR_s, rR_n, gI_sL, gI_sB, gI_sR, gL_sI, gL_sB, gL_sR, gB_sI, gB_sL, gB_sR, gR_sI, gR_sL, gR_sB]) (by simp (disch := decide) only [rI_s, rI_n, rI_f, rI_a, rI_c, rL_s, rL_n, rL_f, rL_a, rL_c, rB_s, rB_n, rB_a, rR_s, rR_n, gI_sL, gI_sB, gI_sR, gL_sI, gL_sB, gL_sR, gB_sI, gB_sL, gB_sR, gR_sI, gR_sL, gR_sB]) (by simp (disch := decide) only [rI_s, rI_n, rI_f, rI_a, rI_c, rL_s, rL_n, rL_f, rL_a, rL_c, rB_s, rB_n, rB_a, rR_s, rR_n, gI_sL, gI_sB, gI_sR, gL_sI, gL_sB, gL_sR, gB_sI, gB_sL, gB_sR, gR_sI, gR_sL, gR_sB]) (by
    rw [rL_s]
    refine ⟨fun _ => ⟨rfl, by decide, by rw [Nat.sub_self]; decide, fun h => absurd h (by omega)⟩, fun h => absurd h (by omega)⟩)
  have he' := s3 hL (by rw [b0]; exact hc)
  unfold F8_scanWord
  rw [s4, bd_some, bnd_eq, bnd_eq, s5, bd_some, bnd_eq]
  unfold F8_scanWord_p55
  rw [bnd_eq]
  have d1 : gI (sI (sI (cA σ s) 8 0 0 11 (nI e')) 8 0 0 4 1) 8 0 0 11 = nI e' := by simp (disch := decide) only [rI_s, rI_n, rI_f, rI_a, rI_c, rL_s, rL_n, rL_f, rL_a, rL_c, rB_s, rB_n, rB_a, rR_s, rR_n, gI_sL, gI_sB, gI_sR, gL_sI, gL_sB, gL_sR, gB_sI, gB_sL, gB_sR, gR_sI, gR_sL, gR_sB]
  have d2 : gI (sI (sI (cA σ s) 8 0 0 11 (nI e')) 8 0 0 4 1) 8 0 0 12 = nI s := by simp (disch := decide) only [rI_s, rI_n, rI_f, rI_a, rI_c, rL_s, rL_n, rL_f, rL_a, rL_c, rB_s, rB_n, rB_a, rR_s, rR_n, gI_sL, gI_sB, gI_sR, gL_sI, gL_sB, gL_sR, gB_sI, gB_sL, gB_sR, gR_sI, gR_sL, gR_sB]
  have m15 : gI τ' 12 0 0 15 = nI s := by rw [s6.1 15 (by decide)]; simp (disch := decide) only [rI_s, rI_n, rI_f, rI_a, rI_c, rL_s, rL_n, rL_f, rL_a, rL_c, rB_s, rB_n, rB_a, rR_s, rR_n, gI_sL, gI_sB, gI_sR, gL_sI, gL_sB, gL_sR, gB_sI, gB_sL, gB_sR, gR_sI, gR_sL, gR_sB]
  have m14 : gI τ' 12 0 0 14 = 1 := by rw [s6.1 14 (by decide)]; simp (disch := decide) only [rI_s, rI_n, rI_f, rI_a, rI_c, rL_s, rL_n, rL_f, rL_a, rL_c, rB_s, rB_n, rB_a, rR_s, rR_n, gI_sL, gI_sB, gI_sR, gL_sI, gL_sB, gL_sR, gB_sI, gB_sL, gB_sR, gR_sI, gR_sL, gR_sB]
  rw [d1, d2, s7, m15, pk_sub (show s ≤ e' by omega)]
  have ct : CT σ (sI (sI (cA σ s) 8 0 0 11 (nI e')) 8 0 0 4 1) := (cA_CT.I (by decide)).I (by decide)
  have fm : FM [14, 15, 16, 17, 18] [19] [] τ (sI τ' 12 0 0 18 (nI (e' - s))) := FM.sI ((FM.sL (FM.sI mA_FM (by decide)) (by decide)).t (s6.m (by decide) (by decide) (by decide))) (by decide)
  have wd : ∀ j, j < 30 → gL (sI (sI (cA σ s) 8 0 0 11 (nI e')) 8 0 0 4 1) 8 0 2 j = wordsN.getD j 0 := by rw [ct.2.2.2]; exact tx.2.2.2.2
  -- behind the names' search
  have fin : ∀ W, (wfind W 30 = wfind (gL τ' 12 0 0 19) 30) → ((8 < e' - s → W = 0) ∧ (¬ 8 < e' - s → W = gL τ' 12 0 0 19 ∧ ¬ gL τ' 12 0 0 19 = 0)) → ∃ σ', F8_scanWord_L85 fuelK (sL (sI (sI (cA σ s) 8 0 0 11 (nI e')) 8 0 0 4 1) 8 0 0 6 W) 0 = some ((), σ') ∧ TkR L s e' σ' (sI τ' 12 0 0 18 (nI (e' - s))) ∧ CT σ σ' := by
    intro W hW hN
    obtain ⟨σ', o1, o2, o3, o4, o5⟩ := scan_names 30 fuelK 0 (sL (sI (sI (cA σ s) 8 0 0 11 (nI e')) 8 0 0 4 1) 8 0 0 6 W) (by omega) (fuelK_lt (by omega)) (by intro j hj; rw [rL_c (by decide)]; exact wd j hj) (by simp (disch := decide) only [rI_s, rI_n, rI_f, rI_a, rI_c, rL_s, rL_n, rL_f, rL_a, rL_c, rB_s, rB_n, rB_a, rR_s, rR_n, gI_sL, gI_sB, gI_sR, gL_sI, gL_sB, gL_sR, gB_sI, gB_sL, gB_sR, gR_sI, gR_sL, gR_sB]; rfl)
    rw [rL_s] at o3 o5
    refine ⟨σ', o1, ⟨⟨?_, ?_, ?_, by omega, fun _ => hL⟩, ?_, ?_, ?_, ?_, fun _ _ => ⟨he', s2, ?_, ?_⟩⟩, ct.wL.t o2⟩
    · rw [o4 4 (by decide), rI_n (by decide), m14]; simp (disch := decide) only [rI_s, rI_n, rI_f, rI_a, rI_c, rL_s, rL_n, rL_f, rL_a, rL_c, rB_s, rB_n, rB_a, rR_s, rR_n, gI_sL, gI_sB, gI_sR, gL_sI, gL_sB, gL_sR, gB_sI, gB_sL, gB_sR, gR_sI, gR_sL, gR_sB]
    · rw [o4 12 (by decide)]; simp (disch := decide) only [rI_s, rI_n, rI_f, rI_a, rI_c, rL_s, rL_n, rL_f, rL_a, rL_c, rB_s, rB_n, rB_a, rR_s, rR_n, gI_sL, gI_sB, gI_sR, gL_sI, gL_sB, gL_sR, gB_sI, gB_sL, gB_sR, gR_sI, gR_sL, gR_sB]
    · rw [rI_n (by decide)]; exact m15
    · rw [o3]; unfold wix; rw [rI_n (by decide), if_pos m14]; exact hW
    · rw [o4 8 (by decide), rI_n (by decide), m14]; simp (disch := decide) only [rI_s, rI_n, rI_f, rI_a, rI_c, rL_s, rL_n, rL_f, rL_a, rL_c, rB_s, rB_n, rB_a, rR_s, rR_n, gI_sL, gI_sB, gI_sR, gL_sI, gL_sB, gL_sR, gB_sI, gB_sL, gB_sR, gR_sI, gR_sL, gR_sB, if_neg]
    · intro h; rw [rI_n (by decide), m14] at h; exact absurd h (by decide)
    · intro _
      rw [rI_s, o5]
      refine ⟨fun h => hN.1 ?_, fun h => hN.2 ?_⟩
      · have := i32_lt.mp h; rw [nI_int (by omega), show (8 : Int32).toInt = 8 from rfl] at this; omega
      · intro h8; exact h (nI_lt (a := 8) (by omega) (by omega))
    · rw [o4 11 (by decide)]; simp (disch := decide) only [rI_s, rI_n, rI_f, rI_a, rI_c, rL_s, rL_n, rL_f, rL_a, rL_c, rB_s, rB_n, rB_a, rR_s, rR_n, gI_sL, gI_sB, gI_sR, gL_sI, gL_sB, gL_sR, gB_sI, gB_sL, gB_sR, gR_sI, gR_sL, gR_sB]
    · rw [rI_n (by decide)]; exact s7
  by_cases c8 : e' - s ≤ 8
  · obtain ⟨a1, a2, a3, a4⟩ := w1 c8
    have a5 := a4 (by omega)
    rw [if_pos (show nI (e' - s) ≤ (8 : Int32) from nI_le (b := 8) (by omega) (by omega)), bnd_eq]
    obtain ⟨σ', o1, o2, o3⟩ := fin y' (by rw [a1]) ⟨fun h => absurd h (by omega), fun _ => ⟨a1, fun z => by rw [a1, z] at a5; exact absurd a5 (by decide)⟩⟩
    rw [o1, bd_some]
    exact ⟨σ', _, s, e', rfl, rfl, hs, o2, o3, fm⟩
  · have a1 := w2 (by omega)
    rw [if_neg (show ¬ nI (e' - s) ≤ (8 : Int32) from nI_ge (a := 8) (by omega) (by omega)), bnd_eq]
    obtain ⟨σ', o1, o2, o3⟩ := fin 0 (by rw [a1, wfind_0, wfind_m]) ⟨fun _ => rfl, fun h => absurd (by omega) h⟩
    rw [o1, bd_some]
    exact ⟨σ', _, s, e', rfl, rfl, hs, o2, o3, fm⟩
theorem adv_num (tx : TxR L σ τ) (hs : e ≤ s) (hL : s < L) (hc : F8_isDigit (gI τ 12 0 4 s) = true) :
    Adv L e σ τ (F8_scanNumber (cA σ s)) (bnd (sI (mA τ s) 12 0 0 17 0) fun s_14 => bd (F12_next_L210 fuelK s_14) fun _ s_21 => if ((gI s_21 12 0 0 16) - (gI s_21 12 0 0 15)) ≤ 4 then (bnd (sI s_21 12 0 0 14 2) fun s_22 => some ((), s_22)) else (bnd (sI s_21 12 0 0 14 4) fun s_23 => some ((), s_23))) := by
  have hL9 := tx.1
  have t0 : TxR L (cA σ s) (sI (mA τ s) 12 0 0 17 0) := tx.f (i := [14, 15, 16, 17, 18]) (l := [19]) cA_CT (FM.sI mA_FM (by decide)) (by decide)
  have b0 : gI (sI (mA τ s) 12 0 0 17 0) 12 0 4 = gI τ 12 0 4 := by simp (disch := decide) only [rI_s, rI_n, rI_f, rI_a, rI_c, rL_s, rL_n, rL_f, rL_a, rL_c, rB_s, rB_n, rB_a, rR_s, rR_n, gI_sL, gI_sB, gI_sR, gL_sI, gL_sB, gL_sR, gB_sI, gB_sL, gB_sR, gR_sI, gR_sL, gR_sB]
  obtain ⟨e', x', τ', s1, s2, s3, s4, s5, s6, s7, w1⟩ := scan_num (s := s) (L - s) fuelK fuelK s 0 (cA σ s) (sI (mA τ s) 12 0 0 17 0) (by omega) (fuelK_lt (by omega)) (fuelK_lt (by omega)) (Nat.le_refl s) t0 (by simp (disch := decide) only [rI_s, rI_n, rI_f, rI_a, rI_c, rL_s, rL_n, rL_f, rL_a, rL_c, rB_s, rB_n, rB_a, rR_s, rR_n, gI_sL, gI_sB, gI_sR, gL_sI, gL_sB, gL_sR, gB_sI, gB_sL, gB_sR, gR_sI, gR_sL, gR_sB]) (by simp (disch := decide) only [rI_s, rI_n, rI_f, rI_a, rI_c, rL_s, rL_n, rL_f, rL_a, rL_c, rB_s, rB_n, rB_a, rR_s, rR_n, gI_sL, gI_sB, gI_sR, gL_sI, gL_sB, gL_sR, gB_sI, gB_sL, gB_sR, gR_sI, gR_sL, gR_sB]) (by simp (disch := decide) only [rI_s, rI_n, rI_f, rI_a, rI_c, rL_s, rL_n, rL_f, rL_a, rL_c, rB_s, rB_n, rB_a, rR_s, rR_n, gI_sL, gI_sB, gI_sR, gL_sI, gL_sB, gL_sR, gB_sI, gB_sL, gB_sR, gR_sI, gR_sL, gR_sB]) (fun _ => by rw [rI_s])
  have he' := s3 hL (by rw [b0]; exact hc)
  unfold F8_scanNumber
  rw [s4, bd_some, bnd_eq, s5, bd_some]
  unfold F8_scanNumber_p59
  have d1 : gI (sI (cA σ s) 8 0 0 11 (nI e')) 8 0 0 11 = nI e' := rI_s
  have d2 : gI (sI (cA σ s) 8 0 0 11 (nI e')) 8 0 0 12 = nI s := by simp (disch := decide) only [rI_s, rI_n, rI_f, rI_a, rI_c, rL_s, rL_n, rL_f, rL_a, rL_c, rB_s, rB_n, rB_a, rR_s, rR_n, gI_sL, gI_sB, gI_sR, gL_sI, gL_sB, gL_sR, gB_sI, gB_sL, gB_sR, gR_sI, gR_sL, gR_sB]
  have m15 : gI τ' 12 0 0 15 = nI s := by rw [s6.1 15 (by decide)]; simp (disch := decide) only [rI_s, rI_n, rI_f, rI_a, rI_c, rL_s, rL_n, rL_f, rL_a, rL_c, rB_s, rB_n, rB_a, rR_s, rR_n, gI_sL, gI_sB, gI_sR, gL_sI, gL_sB, gL_sR, gB_sI, gB_sL, gB_sR, gR_sI, gR_sL, gR_sB]
  rw [d1, d2, s7, m15, pk_sub (show s ≤ e' by omega)]
  have ct : ∀ v w, CT σ (sI (sI (sI (cA σ s) 8 0 0 11 (nI e')) 8 0 0 4 v) 8 0 0 7 w) := fun v w => ((cA_CT.I (by decide)).I (by decide)).I (by decide)
  have fm : ∀ v, FM [14, 15, 16, 17, 18] [19] [] τ (sI τ' 12 0 0 14 v) := fun v => FM.sI ((FM.sI mA_FM (by decide)).t (s6.m (by decide) (by decide) (by decide))) (by decide)
  by_cases c4 : e' - s ≤ 4
  · rw [if_pos (show nI (e' - s) ≤ (4 : Int32) from nI_le (b := 4) (by omega) (by omega)), if_pos (show nI (e' - s) ≤ (4 : Int32) from nI_le (b := 4) (by omega) (by omega)), bnd_eq, bnd_eq, bnd_eq]
    refine ⟨_, _, s, e', rfl, rfl, hs, ⟨⟨?_, ?_, ?_, by omega, fun _ => hL⟩, ?_, ?_, ?_, ?_, fun _ _ => ⟨he', s2, ?_, ?_⟩⟩, ct _ _, fm _⟩
    · simp (disch := decide) only [rI_s, rI_n, rI_f, rI_a, rI_c, rL_s, rL_n, rL_f, rL_a, rL_c, rB_s, rB_n, rB_a, rR_s, rR_n, gI_sL, gI_sB, gI_sR, gL_sI, gL_sB, gL_sR, gB_sI, gB_sL, gB_sR, gR_sI, gR_sL, gR_sB]
    · simp (disch := decide) only [rI_s, rI_n, rI_f, rI_a, rI_c, rL_s, rL_n, rL_f, rL_a, rL_c, rB_s, rB_n, rB_a, rR_s, rR_n, gI_sL, gI_sB, gI_sR, gL_sI, gL_sB, gL_sR, gB_sI, gB_sL, gB_sR, gR_sI, gR_sL, gR_sB]
    · rw [rI_n (by decide)]; exact m15
    · unfold wix
      simp (disch := decide) only [rI_s, rI_n, rI_f, rI_a, rI_c, rL_s, rL_n, rL_f, rL_a, rL_c, rB_s, rB_n, rB_a, rR_s, rR_n, gI_sL, gI_sB, gI_sR, gL_sI, gL_sB, gL_sR, gB_sI, gB_sL, gB_sR, gR_sI, gR_sL, gR_sB, if_neg]
    · simp (disch := decide) only [rI_s, rI_n, rI_f, rI_a, rI_c, rL_s, rL_n, rL_f, rL_a, rL_c, rB_s, rB_n, rB_a, rR_s, rR_n, gI_sL, gI_sB, gI_sR, gL_sI, gL_sB, gL_sR, gB_sI, gB_sL, gB_sR, gR_sI, gR_sL, gR_sB, if_neg]
    · intro _; rw [rI_s, rI_n (by decide)]; exact w1 c4
    · intro h; rw [rI_s] at h; exact absurd h (by decide)
    · simp (disch := decide) only [rI_s, rI_n, rI_f, rI_a, rI_c, rL_s, rL_n, rL_f, rL_a, rL_c, rB_s, rB_n, rB_a, rR_s, rR_n, gI_sL, gI_sB, gI_sR, gL_sI, gL_sB, gL_sR, gB_sI, gB_sL, gB_sR, gR_sI, gR_sL, gR_sB]
    · rw [rI_n (by decide)]; exact s7
  · rw [if_neg (show ¬ nI (e' - s) ≤ (4 : Int32) from nI_ge (a := 4) (by omega) (by omega)), if_neg (show ¬ nI (e' - s) ≤ (4 : Int32) from nI_ge (a := 4) (by omega) (by omega)), bnd_eq, bnd_eq, bnd_eq]
    refine ⟨_, _, s, e', rfl, rfl, hs, ⟨⟨?_, ?_, ?_, by omega, fun _ => hL⟩, ?_, ?_, ?_, ?_, ?_⟩, ct _ _, fm _⟩
    · simp (disch := decide) only [rI_s, rI_n, rI_f, rI_a, rI_c, rL_s, rL_n, rL_f, rL_a, rL_c, rB_s, rB_n, rB_a, rR_s, rR_n, gI_sL, gI_sB, gI_sR, gL_sI, gL_sB, gL_sR, gB_sI, gB_sL, gB_sR, gR_sI, gR_sL, gR_sB]
    · simp (disch := decide) only [rI_s, rI_n, rI_f, rI_a, rI_c, rL_s, rL_n, rL_f, rL_a, rL_c, rB_s, rB_n, rB_a, rR_s, rR_n, gI_sL, gI_sB, gI_sR, gL_sI, gL_sB, gL_sR, gB_sI, gB_sL, gB_sR, gR_sI, gR_sL, gR_sB]
    · rw [rI_n (by decide)]; exact m15
    · unfold wix
      simp (disch := decide) only [rI_s, rI_n, rI_f, rI_a, rI_c, rL_s, rL_n, rL_f, rL_a, rL_c, rB_s, rB_n, rB_a, rR_s, rR_n, gI_sL, gI_sB, gI_sR, gL_sI, gL_sB, gL_sR, gB_sI, gB_sL, gB_sR, gR_sI, gR_sL, gR_sB, if_neg]
    · simp (disch := decide) only [rI_s, rI_n, rI_f, rI_a, rI_c, rL_s, rL_n, rL_f, rL_a, rL_c, rB_s, rB_n, rB_a, rR_s, rR_n, gI_sL, gI_sB, gI_sR, gL_sI, gL_sB, gL_sR, gB_sI, gB_sL, gB_sR, gR_sI, gR_sL, gR_sB, if_neg]
    · intro h; rw [rI_s] at h; exact absurd h (by decide)
    · intro h; rw [rI_s] at h; exact absurd h (by decide)
    · intro _ h; rw [rI_s] at h; exact absurd rfl h
/-- the next token -/
theorem adv (tx : TxR L σ τ) (he : e ≤ L) (h11 : gI σ 8 0 0 11 = nI e) (h16 : gI τ 12 0 0 16 = nI e) : Adv L e σ τ (F8_advance σ) (F12_next τ) := by
  have hL9 := tx.1
  unfold F8_advance F12_next
  rw [bnd_eq, h16]
  obtain ⟨s, s1, s2, s3, s4⟩ := scan_blank (L - e) fuelK fuelK e σ (sI τ 12 0 0 15 (nI e)) (by omega) (fuelK_lt (by omega)) (fuelK_lt (by omega)) (tx.f (i := [15]) (l := []) CT.z (FM.I (by decide)) (by decide)) h11 rI_s
  rw [sI_2] at s4
  rw [s3, s4, bd_some, bd_some]
  unfold F8_advance_p52 F12_next_p58
  have c1 : gI (sI σ 8 0 0 11 (nI s)) 8 0 0 11 = nI s := rI_s
  have m1 : gI (sI τ 12 0 0 15 (nI s)) 12 0 0 15 = nI s := rI_s
  rw [c1, m1]
  have ta : TxR L (cA σ s) (mA τ s) := tx.f cA_CT mA_FM (by decide)
  have q11 : gI (cA σ s) 8 0 0 11 = nI s := by simp (disch := decide) only [rI_s, rI_n, rI_f, rI_a, rI_c, rL_s, rL_n, rL_f, rL_a, rL_c, rB_s, rB_n, rB_a, rR_s, rR_n, gI_sL, gI_sB, gI_sR, gL_sI, gL_sB, gL_sR, gB_sI, gB_sL, gB_sR, gR_sI, gR_sL, gR_sB]
  have q15 : gI (mA τ s) 12 0 0 15 = nI s := by simp (disch := decide) only [rI_s, rI_n, rI_f, rI_a, rI_c, rL_s, rL_n, rL_f, rL_a, rL_c, rB_s, rB_n, rB_a, rR_s, rR_n, gI_sL, gI_sB, gI_sR, gL_sI, gL_sB, gL_sR, gB_sI, gB_sL, gB_sR, gR_sI, gR_sL, gR_sB]
  have r4 : gI (mA τ s) 12 0 4 = gI τ 12 0 4 := by simp (disch := decide) only [rI_s, rI_n, rI_f, rI_a, rI_c, rL_s, rL_n, rL_f, rL_a, rL_c, rB_s, rB_n, rB_a, rR_s, rR_n, gI_sL, gI_sB, gI_sR, gL_sI, gL_sB, gL_sR, gB_sI, gB_sL, gB_sR, gR_sI, gR_sL, gR_sB]
  show Adv L e σ τ (if gI (cA σ s) 8 0 0 11 < gI (cA σ s) 8 0 0 10 then _ else _) (if gI (mA τ s) 12 0 0 15 < gI (mA τ s) 12 0 0 9 then _ else _)
  rw [q11, q15, ta.2.1, ta.2.2.1]
  by_cases cL : s < L
  · obtain ⟨-, b1, b2⟩ := tx.2.2.2.1 s cL
    rw [if_pos (nI_lt cL (by omega)), if_pos (nI_lt cL (by omega)), ta.c cL, ta.m cL, Option.bind_some, Option.bind_some, Option.bind_some, Option.bind_some, by_letter (by rw [r4]; exact b1) (by rw [r4]; exact b2), by_digit (by rw [r4]; exact b1) (by rw [r4]; exact b2), by_sign (by rw [r4]; exact b1) (by rw [r4]; exact b2), r4]
    by_cases k1 : F8_isLetter (gI τ 12 0 4 s) = true
    · rw [if_pos k1, if_pos k1]
      rw [bd_u]
      exact adv_word (e := e) tx s1 cL k1
    · rw [if_neg k1, if_neg k1]
      by_cases k2 : F8_isDigit (gI τ 12 0 4 s) = true
      · rw [if_pos k2, if_pos k2, bd_u]
        exact adv_num (e := e) tx s1 cL k2
      · rw [if_neg k2, if_neg k2]
        by_cases k3 : F8_isSign (gI τ 12 0 4 s) = true
        · rw [if_pos k3]
          have t3 : TxR L (sI (cA σ s) 8 0 0 4 3) (mA τ s) := tx.f (cA_CT.I (by decide)) mA_FM (by decide)
          have q3 : gI (sI (cA σ s) 8 0 0 4 3) 8 0 0 11 = nI s := by rw [rI_n (by decide)]; exact q11
          have e255 : gI τ 12 0 4 s &&& 255 = gI τ 12 0 4 s := by
            rcases b255 b1 b2 with ⟨-, h⟩ | ⟨h, -⟩
            · exact h
            · exfalso
              unfold F8_isSign at k3
              have ne : ∀ w : Int32, 0 ≤ w.toInt → ¬ gI τ 12 0 4 s = w := fun w hw e => by rw [e] at h; omega
              rw [if_neg (ne 59 (by decide)), if_neg (ne 60 (by decide)), if_neg (ne 62 (by decide)), if_neg (ne 61 (by decide))] at k3
              exact absurd k3 (by decide)
          rw [bnd_eq, q3, t3.c cL, Option.bind_some, r4]
          simp only [bnd_eq]
          rw [if_pos k3, e255]
          have q4 : gI (sI (sI (cA σ s) 8 0 0 4 3) 8 0 0 8 (gI τ 12 0 4 s)) 8 0 0 11 = nI s := by rw [rI_n (by decide)]; exact q3
          rw [q4, nI_1]
          exact adv_sign s1 cL
        · rw [if_neg k3]
          simp only [bnd_eq]
          rw [if_neg k3, nI_1]
          exact adv_bad s1 cL
  · obtain rfl : s = L := by omega
    rw [if_neg (show ¬ nI s < nI s from Int32.lt_irrefl), if_neg (show ¬ nI s < nI s from Int32.lt_irrefl), bnd_eq, bnd_eq]
    exact adv_end he
end ADV
