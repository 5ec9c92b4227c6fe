/-! PURE. round, whole. -/
section RRF
variable {σC σM σ τ σ1 τ1 σ2 τ2 σ0 τ0 : Mem} {L u r s e k t p w P Z S d x : Nat} {A RI RI1 : VI} {AL : VL} {C C1 M : Nat → Int32} {W : Nat → Int64} {B : Nat → Bool} {N : Int32}
theorem round_loop (nm : NmOk t P Z σ0 τ0) (ht : t ≠ u) (hM : ∀ j, j < 325 → M j = gI τ0 12 0 5 j) (hL : L ≤ 300) : ∀ m f S p x s e RI C σ τ, L - s ≤ m → m + 1 < f → GS L u r σ0 τ0 s e A AL RI C W B (nI S) σ τ → RI3 RI S p 0 → p + 0 ≤ 2 * S → S ≤ 30 → x ≤ s →
    ∃ σ' τ', F12_round_L28 f τ = some ((), τ') ∧ (RdO L u r t σ0 τ0 A AL W B M 0 s S p 0 x RI C σ σ' τ' (fun τ => gI τ 12 0 0 14 = 0) ∨ RdB L u r t σ0 τ0 s x σ σ' τ') := by
  intro m
  induction m using Nat.strongRecOn with
  | ind m ih =>
    intro f S p x s e RI C σ τ hm hf h ri h2 h3 hx
    obtain ⟨f, rfl⟩ : ∃ k, f = k + 1 := ⟨f - 1, by omega⟩
    simp only [F12_round_L28.eq_2]
    rw [if_pos h.2.1.1]
    by_cases k0 : gI τ 12 0 0 14 = 0
    · rw [if_pos k0]
      exact ⟨σ, τ, rfl, .inl (RdO.z h ri h2 h3 hx k0)⟩
    rw [if_neg k0]
    have hl0 := h.len
    have hsL := hl0.2.2 k0
    obtain ⟨σ1, τ1, o1, o2⟩ := (both_is (r := r) (A := A) (AL := AL) (W := W) (B := B) nm ht hM hL m).2 8 0 S p x s e RI C σ τ hm (by omega) (by omega) h ri h2 h3 hx (fun _ => k0) (fun e => absurd rfl e)
    have o1' : F12_readStep τ 0 = some ((), τ1) := o1
    rw [o1', bdS]
    rcases o2 with ⟨K, x1, s1, e1, S1, p1, RI1, C1, a1, a2, a3, a4, a5, ⟨a6, a7, a8, a9, a10⟩, a11, a12, a13, a14, a15⟩ | ⟨b, K, k1, k2⟩
    · have hl := a5.len
      obtain ⟨σ2, τ2, q1, q2⟩ := ih (L - s1) (by omega) f S1 p1 x1 s1 e1 RI1 C1 σ1 τ1 (Nat.le_refl _) (by omega) a5 a6 a7 a8 a3
      refine ⟨σ2, τ2, q1, ?_⟩
      rcases q2 with q2 | q2
      · exact .inl (RdO.seq a1 a2 (by omega) a9 a10 a11 a12 a13 a14 q2)
      · exact .inr (RdB.seq a1 a2 q2)
    · obtain ⟨f, rfl⟩ : ∃ k, f = k + 1 := ⟨f - 1, by omega⟩
      simp only [F12_round_L28.eq_2]
      rw [if_neg b.n2]
      exact ⟨σ1, τ1, rfl, .inr ⟨b, K, k1, k2⟩⟩
/-- the new steps are put in place -/
theorem m_cpr (hS : S ≤ 30) : ∀ k n i τ, i + k = 9 * S → k < n → gI τ 12 0 0 27 = nI S → ∃ τ', F12_round_L82 n τ (nI i) = some ((), τ') ∧ FM [] [] [5] τ τ' ∧ (∀ j, i ≤ j → j < 9 * S → gI τ' 12 0 5 (325 + j) = gI τ 12 0 5 (2725 + j)) ∧ (∀ j, ¬ (325 + i ≤ j ∧ j < 325 + 9 * S) → gI τ' 12 0 5 j = gI τ 12 0 5 j) := by
  intro k
  induction k with
  | zero =>
    intro n i τ hi hn hN
    obtain ⟨n, rfl⟩ : ∃ k, n = k + 1 := ⟨n - 1, by omega⟩
    obtain rfl : i = 9 * S := by omega
    simp only [F12_round_L82.eq_2]
    rw [hN, show (9 : Int32) * nI S = nI (9 * S) by rw [show (9 : Int32) = nI 9 from rfl, pk_mul], if_pos (Int32.le_refl _)]
    exact ⟨_, rfl, FM.z, fun j h1 h2 => absurd h1 (by omega), fun _ _ => rfl⟩
  | succ k ih =>
    intro n i τ hi hn hN
    obtain ⟨n, rfl⟩ : ∃ k, n = k + 1 := ⟨n - 1, by omega⟩
    simp only [F12_round_L82.eq_2]
    rw [hN, show (9 : Int32) * nI S = nI (9 * S) by rw [show (9 : Int32) = nI 9 from rfl, pk_mul], if_neg (nI_ge (by omega) (by omega)), show (2725 : Int32) + nI i = nI (2725 + i) from nI_add 2725 i, show (325 : Int32) + nI i = nI (325 + i) from nI_add 325 i, ald_nI (by omega) (by omega), Option.bind_some, chk_nI (by omega) (by omega), bnd_eq, cl_nI (by omega), nI_1]
    obtain ⟨τ', o1, o2, o3, o4⟩ := ih n (i + 1) (sI τ 12 0 5 (325 + i) (gI τ 12 0 5 (2725 + i))) (by omega) (by omega) (by rw [rI_c (by decide)]; exact hN)
    refine ⟨τ', o1, (FM.sP FM.z (by decide) (by decide)).t o2, fun j h1 h2 => ?_, fun j hj => ?_⟩
    · by_cases c : j = i
      · subst c; rw [o4 (325 + j) (by omega)]; exact rI_s
      · rw [o3 j (by omega) h2, rI_n (by omega)]
    · rw [o4 j (by omega), rI_n (by omega)]
theorem TallyR.cel {y : TYV} {c c' : Nat → Int32} (h : TallyR y c) (hc : ∀ j, j < 323 → c' j = c j) : TallyR y c' := by
  have n8 := h.ok.n8
  obtain ⟨⟨h1, h2⟩, ⟨h3, h4⟩, h5, h6⟩ := h
  have e7 := hc 7 (by omega)
  have e8 := hc 8 (by omega)
  refine ⟨⟨by rw [e7]; exact h1, by rw [e8]; exact h2⟩, ⟨by rw [e7]; exact h3, by rw [e8]; exact h4⟩, fun k hk => by rw [hc _ (by omega)]; exact h5 k hk, fun k hk => ?_⟩
  rw [e8] at hk
  have := n8.1
  rw [hc _ (by omega), hc _ (by omega), hc _ (by omega), hc _ (by omega)]
  exact h6 k hk
theorem pf_5B {v : Bool} : PF u r σ τ (sB σ 5 r 0 0 v) τ :=
  ⟨⟨FC.B (by decide), fun b _ => ⟨rfl, rfl⟩, fun b hb => ⟨rfl, by funext k; simp [gB_sB, hb]⟩, rfl, rfl, rfl⟩, PF.z (u := u) (r := r) (σ := σ) |>.2⟩
theorem GS.c5B (h : GS L u r σ0 τ0 s e A AL RI C W B N σ τ) {v : Bool} : GS L u r σ0 τ0 s e A AL RI C W B N (sB σ 5 r 0 0 v) τ := by
  have := h.c (σ1 := sB σ 5 r 0 0 v) pf_5B rfl rfl
  obtain ⟨a1, a2, a3⟩ := h.2.2.1
  rw [show gI (sB σ 5 r 0 0 v) 9 u = A from a1, show gL (sB σ 5 r 0 0 v) 9 u = AL from a2, show gI (sB σ 5 r 0 0 v) 5 r = RI from a3] at this
  exact this
theorem nm_rel (h : Rel σC σM) (L : Nat) : NmOk (gR σC 11 0 0 5) (nat (gI σM 12 0 5 5)) (nat (gI σM 12 0 5 6)) σC (tB σM L) := by
  have o := h.ok5
  have tn := h.tent
  have n5 := ok_n5 o
  have n6 := ok_n6 o
  have tc : gI (tB σM L) 12 0 5 = gI σM 12 0 5 := by simp (disch := decide) only [rI_s, rI_n, rI_f, rI_a, rI_c, rL_s, rL_n, rL_f, rL_a, rL_c, rB_s, rB_n, rB_a, rR_s, rR_n, gI_sL, gI_sB, gI_sR, gL_sI, gL_sB, gL_sR, gB_sI, gB_sL, gB_sR, gR_sI, gR_sL, gR_sB]
  refine ⟨⟨n5, n6⟩, ⟨?_, ?_, fun i hi => ?_⟩, ?_, ?_, fun i hi => ?_⟩
  · rw [tn.2.2.2.2.2.1]; exact ok_i5 o
  · rw [tc]; exact ok_i5 o
  · exact (tn.2.2.2.2.2.2.2.2.1 i hi).1
  · rw [tn.2.2.2.2.2.2.1]; exact ok_i6 o
  · rw [tc]; exact ok_i6 o
  · exact (tn.2.2.2.2.2.2.2.2.2 i hi).1
theorem round_good {s1 S p : Nat} (h : Rel σC σM) (g : GS L (gR σC 11 0 0 6) (gR σC 11 0 0 8) σC (tB σM L) s e A AL RI C W B (nI S) σ τ) (ri : RI3 RI S p 0) (hp : p + 0 ≤ 2 * S) (hS : S ≤ 30) (sg : Seg RI (mix (gI σM 12 0 5) C) (S - 0 + 1) (3 - 0) 0 S 0 p) :
    ∃ v σ1 τ1, (gd 5 (gR (sI σ 8 0 0 1 0) 11 0 0 7) fun t_7 => gd 5 (gR (sI σ 8 0 0 1 0) 11 0 0 8) fun t_8 => bnd (sR (sI σ 8 0 0 1 0) 11 0 0 7 t_8) fun s_9 => bnd (sR s_9 11 0 0 8 t_7) fun s_10 => gd 5 (gR s_10 11 0 0 7) fun t_11 => bnd (sB s_10 5 t_11 0 0 true) fun s_12 => gd 5 (gR s_12 11 0 0 7) fun t_13 => bd (F11_answer s_12 (gI s_12 5 t_13 0 1)) fun v_14 s_15 => some (v_14, s_15)) = some (v, σ1) ∧
      F12_round_p50 τ = some (v, τ1) ∧ Rel σ1 τ1 := by
  obtain ⟨⟨u1, u2⟩, ⟨v1, v2⟩⟩ := h.1.2.2.1
  obtain ⟨⟨pf, -, -⟩, ⟨g1, g2, g3⟩, ⟨-, -, a3⟩, gc, -, -, gN⟩ := g
  obtain ⟨⟨f, f9, f5, f8, fl, fm⟩, m1, m2, m3, m4, m5, m6⟩ := pf
  have fR : gR σ 11 0 0 = gR σC 11 0 0 := f.fR 11 0 0 (by decide)
  generalize hu : gR σC 11 0 0 6 = u at *
  generalize ht : gR σC 11 0 0 5 = t at *
  generalize hr : gR σC 11 0 0 7 = r7 at *
  generalize hr8 : gR σC 11 0 0 8 = r8 at *
  have k7 : gR (sI σ 8 0 0 1 0) 11 0 0 7 = r7 := by rw [gR_sI, fR, hr]
  have k8 : gR (sI σ 8 0 0 1 0) 11 0 0 8 = r8 := by rw [gR_sI, fR, hr8]
  rw [k7, k8, gd_at (by omega), gd_at (by omega), bnd_eq, bnd_eq]
  have k7' : gR (sR (sR (sI σ 8 0 0 1 0) 11 0 0 7 r8) 11 0 0 8 r7) 11 0 0 7 = r8 := by rw [rR_n (by decide), rR_s]
  rw [k7', gd_at (by omega), bnd_eq, gR_sB, k7', gd_at (by omega), ans_eq, bdS]
  have z9 : ∀ b, gI (sB (sR (sR (sI σ 8 0 0 1 0) 11 0 0 7 r8) 11 0 0 8 r7) 5 r8 0 0 true) 9 b = gI σ 9 b := by intro b; funext k; simp (disch := decide) only [rI_s, rI_n, rI_f, rI_a, rI_c, rL_s, rL_n, rL_f, rL_a, rL_c, rB_s, rB_n, rB_a, rR_s, rR_n, gI_sL, gI_sB, gI_sR, gL_sI, gL_sB, gL_sR, gB_sI, gB_sL, gB_sR, gR_sI, gR_sL, gR_sB]
  have z5 : ∀ b, gI (sB (sR (sR (sI σ 8 0 0 1 0) 11 0 0 7 r8) 11 0 0 8 r7) 5 r8 0 0 true) 5 b = gI σ 5 b := by intro b; funext k; simp (disch := decide) only [rI_s, rI_n, rI_f, rI_a, rI_c, rL_s, rL_n, rL_f, rL_a, rL_c, rB_s, rB_n, rB_a, rR_s, rR_n, gI_sL, gI_sB, gI_sR, gL_sI, gL_sB, gL_sR, gB_sI, gB_sL, gB_sR, gR_sI, gR_sL, gR_sB]
  have zb5 : ∀ b, b ≠ r8 → gB (sB (sR (sR (sI σ 8 0 0 1 0) 11 0 0 7 r8) 11 0 0 8 r7) 5 r8 0 0 true) 5 b = gB σ 5 b := by intro b hb; funext k; simp [gB_sB, gB_sR, gB_sI, hb]
  have zf : FC [5, 7, 8, 9, 11] σC (sB (sR (sR (sI σ 8 0 0 1 0) 11 0 0 7 r8) 11 0 0 8 r7) 5 r8 0 0 true) := FC.sB (FC.t (FC.t (FC.sI (f.m (by decide)) (by decide)) (FC.R (by decide))) (FC.R (by decide))) (by decide)
  have zy : ∀ b, TY (sB (sR (sR (sI σ 8 0 0 1 0) 11 0 0 7 r8) 11 0 0 8 r7) 5 r8 0 0 true) b = TY σC b := by
    intro b
    simp (disch := decide) only [TY, rI_a, gI_sB, gI_sR, f.fI 7 b _ (show 7 ∉ [5, 8, 9] by decide)]
  have z8 : ∀ j, gI (sB (sR (sR (sI σ 8 0 0 1 0) 11 0 0 7 r8) 11 0 0 8 r7) 5 r8 0 0 true) 8 0 0 j = gI (sI σ 8 0 0 1 0) 8 0 0 j := fun j => rfl
  have z11 : ∀ j, gI (sB (sR (sR (sI σ 8 0 0 1 0) 11 0 0 7 r8) 11 0 0 8 r7) 5 r8 0 0 true) 11 0 0 j = gI σC 11 0 0 j := by
    intro j; simp (disch := decide) only [rI_a, gI_sR, gI_sB]; rw [f.fI 11 0 0 (by decide)]
  have q5 : gR (sB (sR (sR (sI σ 8 0 0 1 0) 11 0 0 7 r8) 11 0 0 8 r7) 5 r8 0 0 true) 11 0 0 5 = t := by rw [gR_sB, rR_n (by decide), rR_n (by decide), gR_sI, fR, ht]
  have q6 : gR (sB (sR (sR (sI σ 8 0 0 1 0) 11 0 0 7 r8) 11 0 0 8 r7) 5 r8 0 0 true) 11 0 0 6 = u := by rw [gR_sB, rR_n (by decide), rR_n (by decide), gR_sI, fR, hu]
  have q7 : gR (sB (sR (sR (sI σ 8 0 0 1 0) 11 0 0 7 r8) 11 0 0 8 r7) 5 r8 0 0 true) 11 0 0 7 = r8 := by rw [gR_sB]; exact k7'
  have q8 : gR (sB (sR (sR (sI σ 8 0 0 1 0) 11 0 0 7 r8) 11 0 0 8 r7) 5 r8 0 0 true) 11 0 0 8 = r7 := by rw [gR_sB, rR_s]
  have b5 : gB (sB (sR (sR (sI σ 8 0 0 1 0) 11 0 0 7 r8) 11 0 0 8 r7) 5 r8 0 0 true) 5 r8 0 0 = true := rB_s
  have e1 : gI (sB (sR (sR (sI σ 8 0 0 1 0) 11 0 0 7 r8) 11 0 0 8 r7) 5 r8 0 0 true) 5 r8 0 1 = nI S := by rw [z5, a3]; exact ri.1
  have zl : gL (sB (sR (sR (sI σ 8 0 0 1 0) 11 0 0 7 r8) 11 0 0 8 r7) 5 r8 0 0 true) = gL σ := rfl
  have zr : gI (sB (sR (sR (sI σ 8 0 0 1 0) 11 0 0 7 r8) 11 0 0 8 r7) 5 r8 0 0 true) 5 r8 = RI := by rw [z5, a3]
  rw [e1]
  generalize sB (sR (sR (sI σ 8 0 0 1 0) 11 0 0 7 r8) 11 0 0 8 r7) 5 r8 0 0 true = σ12 at *
  -- the model
  unfold F12_round_p50
  rw [well_yes g1, bdS, if_pos rfl, show (323 : Int32) = nI 323 from rfl, show (324 : Int32) = nI 324 from rfl, chk_nI (by omega) (by omega), bnd_eq, chk_nI (by omega) (by omega), bnd_eq, cl_nI (by omega), cl_nI (by omega)]
  have n27 : gI (sI (sI (sI τ 12 0 0 10 0) 12 0 0 11 (-1)) 12 0 5 323 1) 12 0 0 27 = nI S := by rw [rI_c (by decide), rI_n (by decide), rI_n (by decide)]; exact gN
  rw [n27]
  obtain ⟨τ2, d1, d2, d3, d4⟩ := m_cpr hS (9 * S) fuelK 0 (sI (sI (sI (sI τ 12 0 0 10 0) 12 0 0 11 (-1)) 12 0 5 323 1) 12 0 5 324 (nI S)) (by omega) (fuelK_lt (by omega)) (by rw [rI_c (by decide)]; exact n27)
  have d1' : F12_round_L82 fuelK (sI (sI (sI (sI τ 12 0 0 10 0) 12 0 0 11 (-1)) 12 0 5 323 1) 12 0 5 324 (nI S)) 0 = some ((), τ2) := d1
  rw [d1', bdS]
  have cell : ∀ j, gI (sI (sI (sI (sI τ 12 0 0 10 0) 12 0 0 11 (-1)) 12 0 5 323 1) 12 0 5 324 (nI S)) 12 0 5 j = if j = 324 then nI S else if j = 323 then 1 else C j := by
    intro j
    by_cases c : j = 324
    · subst c; rw [if_pos rfl, rI_s]
    · rw [if_neg c, rI_n c]
      by_cases c' : j = 323
      · subst c'; rw [if_pos rfl, rI_s]
      · rw [if_neg c', rI_n c', rI_c (by decide), rI_c (by decide), gc]
  have mc : ∀ j, j < 2400 → ¬ (323 ≤ j ∧ j < 325 + 9 * S) → gI τ2 12 0 5 j = gI σM 12 0 5 j := by
    intro j h1 h2
    rw [d4 j (by omega), cell, if_neg (by omega), if_neg (by omega), ← gc, m5 j h1]; simp (disch := decide) only [rI_s, rI_n, rI_f, rI_a, rI_c, rL_s, rL_n, rL_f, rL_a, rL_c, rB_s, rB_n, rB_a, rR_s, rR_n, gI_sL, gI_sB, gI_sR, gL_sI, gL_sB, gL_sR, gB_sI, gB_sL, gB_sR, gR_sI, gR_sL, gR_sB]
  have c323 : gI τ2 12 0 5 323 = 1 := by rw [d4 323 (by omega), cell, if_neg (by omega), if_pos rfl]
  have c324 : gI τ2 12 0 5 324 = nI S := by rw [d4 324 (by omega), cell, if_pos rfl]
  have cst : ∀ j, 325 ≤ j → j < 325 + 9 * S → gI τ2 12 0 5 j = C (2400 + j) := by
    intro j h1 h2
    have := d3 (j - 325) (by omega) (by omega)
    rw [show 325 + (j - 325) = j by omega] at this
    rw [this, cell, if_neg (by omega), if_neg (by omega), show 2725 + (j - 325) = 2400 + j by omega]
  have mi : ∀ j, j ∉ [10, 11, 12, 13, 14, 15, 16, 17, 18, 27] → gI τ2 12 0 0 j = gI (tB σM L) 12 0 0 j := by
    intro j hj
    have h10 : j ≠ 10 := fun e => hj (by subst e; decide)
    have h11 : j ≠ 11 := fun e => hj (by subst e; decide)
    rw [d2.1 j List.not_mem_nil, rI_c (by decide), rI_c (by decide), rI_n h11, rI_n h10]
    have sub : ∀ i, i ∈ [12, 13, 14, 15, 16, 17, 18, 27] → i ∈ [10, 11, 12, 13, 14, 15, 16, 17, 18, 27] := by decide
    exact m1 j (fun hm => hj (sub j hm))
  have mr : ∀ p, p ≠ 5 → p ≠ 7 → p ≠ 0 → gI τ2 12 0 p = gI σM 12 0 p ∧ gL τ2 12 0 p = gL σM 12 0 p := by
    intro p p5 p7 p0
    obtain ⟨q1, q2⟩ := d2.2.2.2 p (by simpa using p5) p0
    obtain ⟨q3, q4⟩ := m4 p p5 p7 p0
    refine ⟨?_, ?_⟩
    · rw [q1, rI_c p5, rI_c p5, rI_c p0, rI_c p0, q3, rI_c p0, rI_c p0, rI_c p0, rI_c p0]
    · rw [q2]; exact q4
  have mw : ∀ j, j < 56 → gL τ2 12 0 7 j = gL σM 12 0 7 j := by
    intro j hj
    rw [(d2.2.2.2 7 (by decide) (by decide)).2]
    show gL τ 12 0 7 j = _
    rw [m6 j hj]; rfl
  have e27 : gI τ2 12 0 0 27 = nI S := by rw [d2.1 27 List.not_mem_nil, rI_c (by decide)]; exact n27
  rw [e27]
  refine ⟨_, _, _, rfl, rfl, RelP.st (σC1 := σ12) (σM1 := τ2) (h.1.txt zf (z11 12) (by rw [zl]; exact fl) (fun b hb => ?_) (fun b hb => ?_) (fun b hb => zy b) ⟨?_, ?_, ?_, ?_⟩ ?_ ?_ (fun j h1 h2 => mc j h2 (by omega)) (fun j h1 h2 => mw j h2) ?_ ?_ ?_ ?_ ?_ ?_) ?_ ?_ ?_⟩
  · obtain ⟨q1, q2⟩ := f9 b (by omega)
    exact ⟨by rw [z9, q1], by rw [zl, q2]⟩
  · obtain ⟨q1, q2⟩ := f5 b (by omega)
    exact ⟨by rw [z5, q1], by rw [zb5 b (by omega), q2]⟩
  · exact (mr 1 (by decide) (by decide) (by decide)).1
  · exact (mr 2 (by decide) (by decide) (by decide)).1
  · exact (mr 3 (by decide) (by decide) (by decide)).2
  · exact (mr 12 (by decide) (by decide) (by decide)).1
  · rw [mi 23 (by decide)]; simp (disch := decide) only [rI_s, rI_n, rI_f, rI_a, rI_c, rL_s, rL_n, rL_f, rL_a, rL_c, rB_s, rB_n, rB_a, rR_s, rR_n, gI_sL, gI_sB, gI_sR, gL_sI, gL_sB, gL_sR, gB_sI, gB_sL, gB_sR, gR_sI, gR_sL, gR_sB]
  · rw [d2.2.2.1]; show gB τ 12 0 0 47 = _; rw [m3 47 (by decide)]; rfl
  · rw [z8, rI_s]
  · rw [mi 8 (by decide), rI_s]
  · rw [z8, rI_n (by decide), g2, d2.1 10 List.not_mem_nil, rI_c (by decide), rI_c (by decide), rI_n (by decide), rI_s]
  · rw [z8, rI_n (by decide), g3, d2.1 11 List.not_mem_nil, rI_c (by decide), rI_c (by decide), rI_s]
  · rw [q5, q6, q7, q8]; exact ⟨⟨u1, u2⟩, by omega, by omega⟩
  · rw [q5, q7]
    obtain ⟨t0, t1, t2, -⟩ := h.1.2.2.2.1
    rw [ht] at t1
    have e : ∀ j, j < 600 → blkM τ2 0 j = gI τ2 12 0 5 j := fun j hj => by simp only [blkM, if_pos hj, Nat.zero_add]
    have e0 : ∀ j, j < 323 → blkM τ2 0 j = blkM σM 0 j := fun j hj => by
      rw [e j (by omega), mc j (by omega) (by omega)]; simp only [blkM, if_pos (show j < 600 by omega), Nat.zero_add]
    have ew : ∀ j, j < 14 → blkW τ2 0 j = blkW σM 0 j := fun j hj => by simp only [blkW, if_pos hj, Nat.zero_add]; exact mw j (by omega)
    obtain ⟨q1, q2⟩ := f9 t (by omega)
    refine ⟨t0.cel (fun j hj => e0 j (by omega)), ?_, ?_, .inr ⟨b5, by rw [e 323 (by omega)]; exact c323, S, p, hS, by omega, ?_, by rw [e 324 (by omega)]; exact c324, ?_, ?_⟩⟩
    · rw [z9, zl, q1, q2]; exact t1.cel t0 (fun j hj => e0 j (by omega)) ew
    · rw [zy]; exact t2.cel e0
    · rw [zr]; exact ri.1
    · rw [zr]; exact ri.2.1
    · rw [zr]
      refine Seg.trim _ 31 _ _ _ _ _ (Seg.loc (c := mix (gI σM 12 0 5) C) ?_ ?_ _ _ _ _ _ _ (fun _ _ _ _ _ _ => rfl) (fun j h1 h2 => ?_) sg) (by omega)
      · rw [e 5 (by omega), mc 5 (by omega) (by omega), mix_lo (by omega)]
      · rw [e 6 (by omega), mc 6 (by omega) (by omega), mix_lo (by omega)]
      · rw [e j (by omega), cst j (by omega) (by omega), mix_hi (by omega)]
  · rw [mi 0 (by decide), rI_n (by decide), rI_n (by decide)]; exact rI_s
  · rw [zl, f.fL 11 0 0 (by decide), d2.2.1 2 List.not_mem_nil]; show _ = gL τ 12 0 0 2; rw [m2 2 (by decide)]; exact h.2.2.1
  · rw [zl, f.fL 11 0 0 (by decide), d2.2.1 3 List.not_mem_nil]; show _ = gL τ 12 0 0 3; rw [m2 3 (by decide)]; exact h.2.2.2
theorem st_round (h : Rel σC σM) (x1 : Int32) : Stq (F11_round σC x1) (F12_round σM x1) := by
  obtain ⟨⟨u1, u2⟩, ⟨v1, v2⟩⟩ := h.1.2.2.1
  have p3 := i32_le.mp h.1.2.1.1.2.2.1
  have z3 : (300 : Int32).toInt = 300 := rfl
  unfold F11_round F12_round
  rw [bnd_mS]
  by_cases hx : ¬ F11_within x1 0 (iMin (gI σC 8 0 0 1) 300) = true
  · rw [if_neg hx, opens_no h (by decide) hx, bdS, if_neg (by decide), ref_eq, bdS]
    exact ⟨_, _, _, rfl, rfl, h.no 5⟩
  replace hx := Decidable.not_not.mp hx
  obtain ⟨L, s, e, σ, τ, rfl, hL9, o1, o2, g, gr⟩ := opens h (gR σC 11 0 0 6) (gR σC 11 0 0 8) (m := 300) (by decide) hx
  have hL : L ≤ 300 := by
    have w := wn_int hx
    rw [nI_int (by omega)] at w
    have : (iMin (gI σC 8 0 0 1) 300).toInt ≤ 300 := by
      unfold iMin
      split
      · rename_i c
        first
          | exact (show (300 : Int32).toInt ≤ 300 from Int.le_refl _)
          | (have := i32_lt.mp c; omega)
      · rename_i c
        first
          | exact (show (300 : Int32).toInt ≤ 300 from Int.le_refl _)
          | (have := mt i32_lt.mpr c; omega)
    omega
  rw [if_pos hx, o1, bdS, o2, bdS, if_pos rfl, show gR σ 11 0 0 8 = gR σC 11 0 0 8 by rw [gr], show gR σ 11 0 0 5 = gR σC 11 0 0 5 by rw [gr], gd_at (by omega), gd_at (by omega), bnd_eq]
  unfold F5_parse
  generalize hr8 : gR σC 11 0 0 8 = r at *
  generalize hu : gR σC 11 0 0 6 = u at *
  have clr : F5_clear σ r = some ((), sI (sI (sI (sB σ 5 r 0 0 false) 5 r 0 1 0) 5 r 0 2 0) 5 r 0 8 0) := rfl
  rw [clr, bdS]
  have g8 := ((((g.c5B (v := false)).c5 (c := 0) (j := 1) (v := nI 0)).c5 (c := 0) (j := 2) (v := nI 0)).c5 (c := 0) (j := 8) (v := nI 0)).mN (v := nI 0)
  have ri0 : RI3 (uV (uV (uV (gI σC 5 r) 0 1 (nI 0)) 0 2 (nI 0)) 0 8 (nI 0)) 0 0 0 := ⟨by rw [uV_n (by omega), uV_n (by omega), uV_s], by rw [uV_n (by omega), uV_s], uV_s⟩
  obtain ⟨σ', τ', y1, y2⟩ := round_loop (M := gI σM 12 0 5) (nm_rel h L) (show gR σC 11 0 0 5 ≠ u by omega) (fun j hj => by simp (disch := decide) only [rI_s, rI_n, rI_f, rI_a, rI_c, rL_s, rL_n, rL_f, rL_a, rL_c, rB_s, rB_n, rB_a, rR_s, rR_n, gI_sL, gI_sB, gI_sR, gL_sI, gL_sB, gL_sR, gB_sI, gB_sL, gB_sR, gR_sI, gR_sL, gR_sB]) hL (L - s) fuelK 0 0 0 s e _ _ _ _ (Nat.le_refl _) (fuelK_lt (by omega)) g8 ri0 (by omega) (by omega) (by omega)
  have y1' : F12_round_L28 fuelK (sI τ 12 0 0 27 0) = some ((), τ') := y1
  rw [y1', bdS]
  have fl := fuel_big
  rcases y2 with ⟨K, x', s', e', S', p', RI', C', a1, a2, a3, a4, a5, ⟨a6, a7, a8, a9, a10⟩, a11, a12, a13, a14, a15⟩ | ⟨bs, K, k1, k2⟩
  · have hl := a5.len
    have c1 : F5_parse_L6 r (gR σC 11 0 0 5) fuelK (sI (sI (sI (sB σ 5 r 0 0 false) 5 r 0 1 0) 5 r 0 2 0) 5 r 0 8 0) 0 = some (true, σ') := by
      obtain ⟨f, hf⟩ : ∃ f, fuelK = f + 1 + K := ⟨fuelK - 1 - K, by omega⟩
      rw [hf]
      refine (a1 (f + 1)).trans ?_
      have p97 : F5_parse_p97 σ' r = some (true, σ') := by
        unfold F5_parse_p97
        rw [a5.2.2.1.2.2, a6.2.2, if_pos (show nI 0 = 0 from rfl)]
      simp only [F5_parse_L6.eq_2]
      rw [a5.kind, if_pos a15]
      split <;> exact p97
    rw [c1, bdS, bnd_eq, if_pos rfl]
    rw [← hr8, ← hu] at a5
    obtain ⟨v, σ1, τ1, r1, r2, r3⟩ := round_good (s1 := 0) h a5 a6 a7 a8 a11
    rw [r1, r2]
    exact ⟨_, _, _, rfl, rfl, r3⟩
  · have c1 : F5_parse_L6 r (gR σC 11 0 0 5) fuelK (sI (sI (sI (sB σ 5 r 0 0 false) 5 r 0 1 0) 5 r 0 2 0) 5 r 0 8 0) 0 = some (false, σ') := by
      obtain ⟨f, hf⟩ : ∃ f, fuelK = f + K := ⟨fuelK - K, by omega⟩
      rw [hf]
      exact k2 f
    rw [c1, bdS, bnd_eq, if_neg (by decide), ref_eq, bdS]
    unfold F12_round_p50
    rw [← hr8, ← hu] at bs
    obtain ⟨τ3, r1, r2⟩ := txt_bad h bs
    rw [r1, bdS, if_neg (by decide)]
    exact ⟨_, _, _, rfl, rfl, r2⟩
end RRF
