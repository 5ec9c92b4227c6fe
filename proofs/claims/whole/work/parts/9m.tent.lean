/-! PURE. tent. -/
section TNT
variable {σ τ σ1 τ1 σ2 τ2 σ0 τ0 : Mem} {L u r s e k t n : Nat} {A A1 RI : VI} {AL AL1 : VL} {C C1 : Nat → Int32} {W W1 : Nat → Int64} {B : Nat → Bool} {N : Int32} {G : Mem → Mem → Prop}
theorem bd_two {a : Option (Unit × Mem)} {b : Mem → Option (Unit × Mem)} {g : Unit → Mem → Option (Unit × Mem)} {τ' : Mem} (h : (bd a fun _ s => b s) = some ((), τ')) : (bd a fun _ s => bd (b s) g) = g () τ' := by
  rw [← bd_assoc a (fun _ s => b s) g, h, bdS]
/-- all parts of the tent -/
theorem tent_loop : ∀ d n m x s e A AL C W B σ τ, L - s ≤ d → d < n → d < m → x ≤ s → GS L u r σ0 τ0 s e A AL RI C W B N σ τ → TP A AL (sh C) (shW W) B →
    ∃ b σ' τ', F9_parse_L6 u n σ (nI x) = some (b, σ') ∧ F12_tent_L71 m τ = some ((), τ') ∧ ((b = true ∧ ∃ s' e' A AL C W B, GS L u r σ0 τ0 s' e' A AL RI C W B N σ' τ' ∧ TP A AL (sh C) (shW W) B) ∨ (b = false ∧ BS u r σ0 τ0 σ' τ')) := by
  intro d
  induction d with
  | zero =>
    intro n m x s e A AL C W B σ τ hd hn hm hx h tp
    obtain ⟨n, rfl⟩ : ∃ k, n = k + 1 := ⟨n - 1, by omega⟩
    obtain ⟨m, rfl⟩ : ∃ k, m = k + 1 := ⟨m - 1, by omega⟩
    have z : gI τ 12 0 0 14 = 0 := Decidable.byContradiction fun e => by have := h.len.2.2 e; omega
    have ec : F9_parse_L6 u (n + 1) σ (nI x) = some (true, σ) := by
      simp only [F9_parse_L6.eq_2]
      rw [h.kind, if_pos z]
      split <;> rfl
    have em : F12_tent_L71 (m + 1) τ = some ((), τ) := by
      simp only [F12_tent_L71.eq_2]
      rw [if_pos h.2.1.1, if_pos z]
    exact ⟨true, σ, τ, ec, em, .inl ⟨rfl, s, e, A, AL, C, W, B, h, tp⟩⟩
  | succ d ih =>
    intro n m x s e A AL C W B σ τ hd hn hm hx h tp
    obtain ⟨n, rfl⟩ : ∃ k, n = k + 1 := ⟨n - 1, by omega⟩
    obtain ⟨m, rfl⟩ : ∃ k, m = k + 1 := ⟨m - 1, by omega⟩
    by_cases z : gI τ 12 0 0 14 = 0
    · have ec : F9_parse_L6 u (n + 1) σ (nI x) = some (true, σ) := by
        simp only [F9_parse_L6.eq_2]
        rw [h.kind, if_pos z]
        split <;> rfl
      have em : F12_tent_L71 (m + 1) τ = some ((), τ) := by
        simp only [F12_tent_L71.eq_2]
        rw [if_pos h.2.1.1, if_pos z]
      exact ⟨true, σ, τ, ec, em, .inl ⟨rfl, s, e, A, AL, C, W, B, h, tp⟩⟩
    obtain ⟨hl1, hl2, hl3⟩ := h.len
    have hsL := hl3 z
    have hx9 : ¬ (900 : Int32) ≤ nI x := nI_ge (a := x) (b := 900) (by omega) (by omega)
    have hk : ¬ gI σ 8 0 0 4 = 0 := by rw [h.kind]; exact z
    -- behind a part
    have nx : ∀ {X : Option (Bool × Mem)} {a : Option (Unit × Mem)}, Fin2 u r σ0 τ0 (TG L u r σ0 τ0 s RI N) X (bd a fun _ s => F12_must s (F12_isSign s 59)) →
        ∃ b σ' τ', (bd X fun v s => F9_parse_p152 (F9_parse_L6 u n) s u (nI x) v) = some (b, σ') ∧ (bd a fun _ s => bd (F12_must s (F12_isSign s 59)) fun _ s => F12_tent_L71 m s) = some ((), τ') ∧ ((b = true ∧ ∃ s' e' A AL C W B, GS L u r σ0 τ0 s' e' A AL RI C W B N σ' τ' ∧ TP A AL (sh C) (shW W) B) ∨ (b = false ∧ BS u r σ0 τ0 σ' τ')) := by
      intro X a hf
      obtain ⟨σ1, τ1, y1, ⟨x1, g1⟩ | ⟨x1, b1⟩⟩ := hf
      · obtain ⟨s', e', A', AL', C', W', B', l1, h1, t1⟩ := g1
        obtain ⟨b, σ2, τ2, q1, q2, q3⟩ := ih n m (x + 1) s' e' A' AL' C' W' B' σ1 τ1 (by omega) (by omega) (by omega) (by omega) h1 t1
        refine ⟨b, σ2, τ2, ?_, ?_, q3⟩
        · rw [x1, bdS]; unfold F9_parse_p152; rw [if_pos rfl, nI_1]; exact q1
        · rw [bd_two y1]; exact q2
      · obtain ⟨m, rfl⟩ : ∃ k, m = k + 1 := ⟨m - 1, by omega⟩
        refine ⟨false, σ1, τ1, ?_, ?_, .inr ⟨rfl, b1⟩⟩
        · rw [x1, bdS]; unfold F9_parse_p152; rw [if_neg (by decide)]
        · rw [bd_two y1]
          simp only [F12_tent_L71.eq_2]
          rw [if_neg b1.n2]
    -- no part begins so
    have bad : ∃ b σ' τ', (bd (F8_refuseHere σ 2) fun v s => F9_parse_p152 (F9_parse_L6 u n) s u (nI x) v) = some (b, σ') ∧ (bd (F12_wrong τ) fun _ s => bd (F12_must s (F12_isSign s 59)) fun _ s => F12_tent_L71 m s) = some ((), τ') ∧ ((b = true ∧ ∃ s' e' A AL C W B, GS L u r σ0 τ0 s' e' A AL RI C W B N σ' τ' ∧ TP A AL (sh C) (shW W) B) ∨ (b = false ∧ BS u r σ0 τ0 σ' τ')) := by
      obtain ⟨σ1, o1, τ1, o2, o3⟩ := h.wrong
      refine nx ?_
      rw [o1, o2, bdS]
      exact (b_must0 o3).fin
    simp only [F9_parse_L6.eq_2, F12_tent_L71.eq_2]
    rw [if_neg hx9, if_neg hk, h.idx, if_pos h.2.1.1, if_neg z]
    simp only [w_tube, w_far, w_wind, w_ring, w_pea, w_shooter]
    by_cases k0 : wix τ = 0
    · rw [if_pos k0, if_pos k0]; exact nx (p_tube h tp k0)
    rw [if_neg k0, if_neg k0]
    by_cases k1 : wix τ = 1
    · rw [if_pos k1, k1, if_neg (show ¬ (1 : Int32) = 2 by decide), if_neg (show ¬ (1 : Int32) = 3 by decide), if_neg (show ¬ (1 : Int32) = 5 by decide), if_neg (show ¬ (1 : Int32) = 7 by decide), if_neg (show ¬ (1 : Int32) = 12 by decide)]; exact bad
    rw [if_neg k1]
    by_cases k2 : wix τ = 2
    · rw [if_pos k2, if_pos k2]; exact nx (p_far h tp k2)
    rw [if_neg k2, if_neg k2]
    by_cases k3 : wix τ = 3
    · rw [if_pos k3, if_pos k3]; exact nx (p_wind h tp k3)
    rw [if_neg k3, if_neg k3]
    by_cases k4 : wix τ = 4
    · rw [if_pos k4, k4, if_neg (show ¬ (4 : Int32) = 5 by decide), if_neg (show ¬ (4 : Int32) = 7 by decide), if_neg (show ¬ (4 : Int32) = 12 by decide)]; exact bad
    rw [if_neg k4]
    by_cases k5 : wix τ = 5
    · rw [if_pos k5, if_pos k5]; exact nx (p_ring h tp k5)
    rw [if_neg k5, if_neg k5]
    by_cases k6 : wix τ = 6
    · rw [if_pos k6, k6, if_neg (show ¬ (6 : Int32) = 7 by decide), if_neg (show ¬ (6 : Int32) = 12 by decide)]; exact bad
    rw [if_neg k6]
    by_cases k7 : wix τ = 7
    · rw [if_pos k7, if_pos k7]; exact nx (p_pea h tp k7)
    rw [if_neg k7, if_neg k7]
    by_cases k12 : wix τ = 12
    · rw [k12, if_neg (show ¬ (12 : Int32) = 8 by decide), if_neg (show ¬ (12 : Int32) = 9 by decide), if_neg (show ¬ (12 : Int32) = 10 by decide), if_neg (show ¬ (12 : Int32) = 11 by decide), if_pos rfl, if_pos rfl]; exact nx (p_shooter h tp k12)
    rw [if_neg k12, if_neg k12]
    by_cases k8 : wix τ = 8
    · rw [if_pos k8]; exact bad
    rw [if_neg k8]
    by_cases k9 : wix τ = 9
    · rw [if_pos k9]; exact bad
    rw [if_neg k9]
    by_cases k10 : wix τ = 10
    · rw [if_pos k10]; exact bad
    rw [if_neg k10]
    by_cases k11 : wix τ = 11
    · rw [if_pos k11]; exact bad
    rw [if_neg k11]
    exact bad
end TNT
section TNU
variable {σC σM σ τ σ1 τ1 : Mem} {L k : Nat}
/-- the model, when a text's length is taken -/
abbrev tB (σM : Mem) (L : Nat) : Mem := sI (sI (mS σM) 12 0 0 9 (nI L)) 12 0 0 8 0
/-- both have opened the text -/
theorem opens (h : Rel σC σM) (u r : Nat) {x1 m : Int32} (hm : 300 ≤ m.toInt ∧ m.toInt ≤ 900) (hx : F11_within x1 0 (iMin (gI σC 8 0 0 1) m) = true) :
    ∃ L s e σ τ, x1 = nI L ∧ L ≤ 900 ∧ F8_begin σC x1 = some ((), σ) ∧ F12_opens (mS σM) x1 m = some (true, τ) ∧
      GS L u r σC (tB σM L) s e (gI σC 9 u) (gL σC 9 u) (gI σC 5 r) (gI σM 12 0 5) (gL σM 12 0 7) (gB σM 12 0 0) (gI σM 12 0 0 27) σ τ ∧ gR σ 11 = gR σC 11 := by
  obtain ⟨p1, p2, p3, p4, p5, p6⟩ := h.1.2.1.1
  have wx := wn_int hx
  have z0 : (0 : Int32).toInt = 0 := rfl
  have z9 : (900 : Int32).toInt = 900 := rfl
  have b2 := i32_le.mp p2
  have b3 := i32_le.mp p3
  obtain ⟨M, hM, eM⟩ := i32_ex (x := gI σM 12 0 0 8) 900 (by omega) (by omega)
  have iM := nI_int (n := M) (by omega)
  rw [p1, eM] at wx hx
  have mn : (iMin (nI M) m).toInt = min (M : Int) m.toInt := by
    unfold iMin
    split
    · rename_i c; have := i32_lt.mp c; omega
    · rename_i c; have := mt i32_lt.mpr c; omega
  rw [mn] at wx
  obtain ⟨L, hL, rfl⟩ := i32_ex (x := x1) 900 (by omega) (by omega)
  have iL := nI_int (n := L) (by omega)
  have hLM : L ≤ M := by omega
  have eL : iMax 0 (iMin (nI L) (gI σC 8 0 0 1)) = nI L := by
    rw [p1, eM]
    have q : iMin (nI L) (nI M) = nI L := by
      unfold iMin
      split
      · rename_i c
        have := i32_lt.mp c
        rw [i32_eq]; omega
      · rfl
    rw [q]
    unfold iMax
    split
    · rename_i c
      first
        | rfl
        | (rw [i32_eq]; have := i32_lt.mp c; omega)
    · rename_i c
      first
        | rfl
        | (rw [i32_eq]; have := mt i32_lt.mpr c; omega)
  unfold F8_begin F12_opens
  rw [eL, bnd_eq, bnd_eq, bnd_eq, bnd_eq, if_neg (nI_pos (by omega)), show gI (mS σM) 12 0 0 8 = nI M by rw [rI_n (by decide), rI_n (by decide)]; exact eM, if_neg (show ¬ nI M < nI L from fun e => by have := i32_lt.mp e; omega), if_pos (show nI L ≤ m from i32_le.mpr (by omega)), bnd_eq, bnd_eq, bnd_eq, bnd_eq]
  have tx : TxR L (sI (sI (sI (sI σC 8 0 0 10 (nI L)) 8 0 0 11 0) 8 0 0 2 0) 8 0 0 3 (-1)) (sI (sI (tB σM L) 12 0 0 16 0) 12 0 0 12 0) := by
    refine ⟨hL, ?_, ?_, fun j hj => ?_, fun j hj => ?_⟩
    · simp (disch := decide) only [rI_s, rI_n, rI_f, rI_a, rI_c, rL_s, rL_n, rL_f, rL_a, rL_c, rB_s, rB_n, rB_a, rR_s, rR_n, gI_sL, gI_sB, gI_sR, gL_sI, gL_sB, gL_sR, gB_sI, gB_sL, gB_sR, gR_sI, gR_sL, gR_sB]
    · simp (disch := decide) only [rI_s, rI_n, rI_f, rI_a, rI_c, rL_s, rL_n, rL_f, rL_a, rL_c, rB_s, rB_n, rB_a, rR_s, rR_n, gI_sL, gI_sB, gI_sR, gL_sI, gL_sB, gL_sR, gB_sI, gB_sL, gB_sR, gR_sI, gR_sL, gR_sB]
    · have a1 : gI (sI (sI (sI (sI σC 8 0 0 10 (nI L)) 8 0 0 11 0) 8 0 0 2 0) 8 0 0 3 (-1)) 8 0 1 = gI σC 8 0 1 := by simp (disch := decide) only [rI_s, rI_n, rI_f, rI_a, rI_c, rL_s, rL_n, rL_f, rL_a, rL_c, rB_s, rB_n, rB_a, rR_s, rR_n, gI_sL, gI_sB, gI_sR, gL_sI, gL_sB, gL_sR, gB_sI, gB_sL, gB_sR, gR_sI, gR_sL, gR_sB]
      have a2 : gI (sI (sI (tB σM L) 12 0 0 16 0) 12 0 0 12 0) 12 0 4 = gI σM 12 0 4 := by simp (disch := decide) only [rI_s, rI_n, rI_f, rI_a, rI_c, rL_s, rL_n, rL_f, rL_a, rL_c, rB_s, rB_n, rB_a, rR_s, rR_n, gI_sL, gI_sB, gI_sR, gL_sI, gL_sB, gL_sR, gB_sI, gB_sL, gB_sR, gR_sI, gR_sL, gR_sB]
      rw [a1, a2]
      exact p6 j (by rw [eM, nat_nI (by omega)]; omega)
    · exact h.1.2.1.2 j hj
  obtain ⟨σ', τ', s', e', o1, o2, o3, o4, o5, o6⟩ := adv (e := 0) tx (by omega) (by simp (disch := decide) only [rI_s, rI_n, rI_f, rI_a, rI_c, rL_s, rL_n, rL_f, rL_a, rL_c, rB_s, rB_n, rB_a, rR_s, rR_n, gI_sL, gI_sB, gI_sR, gL_sI, gL_sB, gL_sR, gB_sI, gB_sL, gB_sR, gR_sI, gR_sL, gR_sB]; rfl) (by simp (disch := decide) only [rI_s, rI_n, rI_f, rI_a, rI_c, rL_s, rL_n, rL_f, rL_a, rL_c, rB_s, rB_n, rB_a, rR_s, rR_n, gI_sL, gI_sB, gI_sR, gL_sI, gL_sB, gL_sR, gB_sI, gB_sL, gB_sR, gR_sI, gR_sL, gR_sB]; rfl)
  rw [o1, bd_some, o2, bd_some]
  refine ⟨L, s', e', σ', τ', rfl, hL, rfl, rfl, ⟨⟨?_, tx.f o5 o6 (by decide), o4⟩, ⟨?_, ?_, ?_⟩, ⟨?_, ?_, ?_⟩, ?_, ?_, ?_, ?_⟩, ?_⟩
  · exact ((pf_8 (by decide)).t ((pf_8 (by decide)).t ((pf_8 (by decide)).t ((pf_8 (by decide)).t ((pf_m (by decide)).t (pf_m (by decide))))))).t (PF.ct o5 o6)
  · rw [o6.1 12 (by decide)]; exact rI_s
  · rw [o5.2.1 2 (by decide), rI_n (by decide)]; exact rI_s
  · rw [o5.2.1 3 (by decide)]; exact rI_s
  · funext c; rw [o5.1.fI 9 u c (by decide)]; simp (disch := decide) only [rI_s, rI_n, rI_f, rI_a, rI_c, rL_s, rL_n, rL_f, rL_a, rL_c, rB_s, rB_n, rB_a, rR_s, rR_n, gI_sL, gI_sB, gI_sR, gL_sI, gL_sB, gL_sR, gB_sI, gB_sL, gB_sR, gR_sI, gR_sL, gR_sB]
  · funext c; rw [o5.1.fL 9 u c (by decide)]; rfl
  · funext c; rw [o5.1.fI 5 r c (by decide)]; simp (disch := decide) only [rI_s, rI_n, rI_f, rI_a, rI_c, rL_s, rL_n, rL_f, rL_a, rL_c, rB_s, rB_n, rB_a, rR_s, rR_n, gI_sL, gI_sB, gI_sR, gL_sI, gL_sB, gL_sR, gB_sI, gB_sL, gB_sR, gR_sI, gR_sL, gR_sB]
  · rw [(o6.2.2.2 5 List.not_mem_nil (by decide)).1]; simp (disch := decide) only [rI_s, rI_n, rI_f, rI_a, rI_c, rL_s, rL_n, rL_f, rL_a, rL_c, rB_s, rB_n, rB_a, rR_s, rR_n, gI_sL, gI_sB, gI_sR, gL_sI, gL_sB, gL_sR, gB_sI, gB_sL, gB_sR, gR_sI, gR_sL, gR_sB]
  · rw [(o6.2.2.2 7 List.not_mem_nil (by decide)).2]; rfl
  · rw [o6.2.2.1]; rfl
  · rw [o6.1 27 (by decide)]; simp (disch := decide) only [rI_s, rI_n, rI_f, rI_a, rI_c, rL_s, rL_n, rL_f, rL_a, rL_c, rB_s, rB_n, rB_a, rR_s, rR_n, gI_sL, gI_sB, gI_sR, gL_sI, gL_sB, gL_sR, gB_sI, gB_sL, gB_sR, gR_sI, gR_sL, gR_sB]
  · funext b' c'; rw [o5.1.fR 11 b' c' (by decide)]; rfl
end TNU
