/-! PURE. feed; mark, back. -/
section CPY
variable {x d s : Nat} {σ τ : Mem} {F : List Nat} {I L : List (Nat × Nat)} {b : Bool} {Q : Mem → Prop}
/-- of the kind x the instance d takes over from s: the ints F, the rows I, L, so far -/
def Cp (x d s : Nat) (σ τ : Mem) (F : List Nat) (I L : List (Nat × Nat)) (b : Bool) : Prop :=
  FC [x] σ τ ∧ (∀ e, e ≠ d → gI τ x e = gI σ x e ∧ gL τ x e = gL σ x e ∧ gB τ x e = gB σ x e) ∧
  (∀ j, j ∈ F → gI τ x d 0 j = gI σ x s 0 j) ∧ (∀ q, q ∈ I → ∀ j, j < q.2 → gI τ x d q.1 j = gI σ x s q.1 j) ∧ (∀ q, q ∈ L → ∀ j, j < q.2 → gL τ x d q.1 j = gL σ x s q.1 j) ∧ (b = true → gB τ x d 0 0 = gB σ x s 0 0)
theorem Cp.z : Cp x d s σ σ [] [] [] false := ⟨FC.z, fun _ _ => ⟨rfl, rfl, rfl⟩, fun _ h => absurd h List.not_mem_nil, fun _ h => absurd h List.not_mem_nil, fun _ h => absurd h List.not_mem_nil, fun h => absurd h (by decide)⟩
theorem cpF {K : Mem → Option (Unit × Mem)} (j : Nat) (hne : s ≠ d) (h0 : ∀ q, q ∈ I → q.1 ≠ 0) (h : Cp x d s σ τ F I L b) (k : ∀ τ', Cp x d s σ τ' (j :: F) I L b → ∃ σ', K τ' = some ((), σ') ∧ Q σ') : ∃ σ', (bnd (sI τ x d 0 j (gI τ x s 0 j)) fun s_1 => K s_1) = some ((), σ') ∧ Q σ' := by
  rw [bnd_eq]
  apply k
  obtain ⟨h1, h2, h3, h4, h5, h6⟩ := h
  refine ⟨FC.sI h1 (List.mem_singleton.mpr rfl), fun e he => ?_, fun i hi => ?_, fun q hq i hi => ?_, fun q hq i hi => ?_, fun hb => ?_⟩
  · obtain ⟨a1, a2, a3⟩ := h2 e he
    refine ⟨?_, by rw [← a2]; rfl, by rw [← a3]; rfl⟩
    rw [← a1]; funext c'; simp [gI_sI, he]
  · by_cases e : i = j
    · subst e; rw [rI_s, (h2 s hne).1]
    · rw [rI_n e]; exact h3 i ((List.mem_cons.mp hi).resolve_left e)
  · rw [rI_c (h0 q hq)]; exact h4 q hq i hi
  · rw [gL_sI]; exact h5 q hq i hi
  · rw [gB_sI]; exact h6 hb
theorem cpB {K : Mem → Option (Unit × Mem)} (hne : s ≠ d) (h : Cp x d s σ τ F I L b) (k : ∀ τ', Cp x d s σ τ' F I L true → ∃ σ', K τ' = some ((), σ') ∧ Q σ') : ∃ σ', (bnd (sB τ x d 0 0 (gB τ x s 0 0)) fun s_1 => K s_1) = some ((), σ') ∧ Q σ' := by
  rw [bnd_eq]
  apply k
  obtain ⟨h1, h2, h3, h4, h5, h6⟩ := h
  refine ⟨FC.sB h1 (List.mem_singleton.mpr rfl), fun e he => ?_, fun i hi => h3 i hi, fun q hq i hi => h4 q hq i hi, fun q hq i hi => h5 q hq i hi, fun _ => by rw [rB_s, (h2 s hne).2.2]⟩
  obtain ⟨a1, a2, a3⟩ := h2 e he
  refine ⟨by rw [← a1]; rfl, by rw [← a2]; rfl, ?_⟩
  rw [← a3]; funext c'; simp [gB_sB, he]
theorem chkC_ok {γ : Type} {n : Nat} {N : Int32} {e : Option γ} (hN : N = nI n) (hn : n ≤ 60) : chkC n n 0 0 N e = e := by
  unfold chkC
  rw [if_neg]
  subst hN
  rw [cl_nI (by omega), show Int32.toNatClampNeg 0 = 0 from rfl]
  rintro (c | c | c | c | c)
  · exact absurd c (by decide)
  · exact absurd c (by decide)
  · exact nI_pos (by omega) c
  · omega
  · omega
theorem cpI {K : Mem → Option (Unit × Mem)} {n : Nat} {N : Int32} (c : Nat) (hN : N = nI n) (hn : n ≤ 60) (hne : s ≠ d) (hc : c ≠ 0) (h0 : ∀ q, q ∈ I → q.1 ≠ c) (h : Cp x d s σ τ F I L b) (k : ∀ τ', Cp x d s σ τ' F ((c, n) :: I) L b → ∃ σ', K τ' = some ((), σ') ∧ Q σ') :
    ∃ σ', (chkC n n 0 0 N <| bnd (sIf τ x d c (va_cpy (gI τ x s c) (gI τ x d c) (Int32.toNatClampNeg 0) (Int32.toNatClampNeg 0) (Int32.toNatClampNeg N))) fun s_1 => K s_1) = some ((), σ') ∧ Q σ' := by
  rw [chkC_ok hN hn, bnd_eq]
  apply k
  obtain ⟨h1, h2, h3, h4, h5, h6⟩ := h
  refine ⟨FC.sI h1 (List.mem_singleton.mpr rfl), fun e he => ?_, fun i hi => ?_, fun q hq i hi => ?_, fun q hq i hi => ?_, fun hb => ?_⟩
  · obtain ⟨a1, a2, a3⟩ := h2 e he
    refine ⟨?_, by rw [← a2]; rfl, by rw [← a3]; rfl⟩
    rw [← a1]; funext c'; simp [gI_sI, he]
  · rw [rI_c (fun e => hc e.symm)]; exact h3 i hi
  · rcases List.mem_cons.mp hq with e | e
    · subst e
      simp only at hi ⊢
      rw [rI_f, hN, cl_nI (by omega), show Int32.toNatClampNeg 0 = 0 from rfl, pk_cpy_in (by omega) (by omega), (h2 s hne).1]
      congr 1; omega
    · rw [rI_c (h0 q e)]; exact h4 q e i hi
  · rw [gL_sI]; exact h5 q hq i hi
  · rw [gB_sI]; exact h6 hb
theorem cpL {K : Mem → Option (Unit × Mem)} {n : Nat} {N : Int32} (c : Nat) (hN : N = nI n) (hn : n ≤ 60) (hne : s ≠ d) (h0 : ∀ q, q ∈ L → q.1 ≠ c) (h : Cp x d s σ τ F I L b) (k : ∀ τ', Cp x d s σ τ' F I ((c, n) :: L) b → ∃ σ', K τ' = some ((), σ') ∧ Q σ') :
    ∃ σ', (chkC n n 0 0 N <| bnd (sLf τ x d c (va_cpy (gL τ x s c) (gL τ x d c) (Int32.toNatClampNeg 0) (Int32.toNatClampNeg 0) (Int32.toNatClampNeg N))) fun s_1 => K s_1) = some ((), σ') ∧ Q σ' := by
  rw [chkC_ok hN hn, bnd_eq]
  apply k
  obtain ⟨h1, h2, h3, h4, h5, h6⟩ := h
  refine ⟨FC.sL h1 (List.mem_singleton.mpr rfl), fun e he => ?_, fun i hi => ?_, fun q hq i hi => ?_, fun q hq i hi => ?_, fun hb => ?_⟩
  · obtain ⟨a1, a2, a3⟩ := h2 e he
    refine ⟨by rw [← a1]; rfl, ?_, by rw [← a3]; rfl⟩
    rw [← a2]; funext c'; simp [gL_sL, he]
  · rw [gI_sL]; exact h3 i hi
  · rw [gI_sL]; exact h4 q hq i hi
  · rcases List.mem_cons.mp hq with e | e
    · subst e
      simp only at hi ⊢
      rw [rL_f, hN, cl_nI (by omega), show Int32.toNatClampNeg 0 = 0 from rfl, pk_cpy_in (by omega) (by omega), (h2 s hne).2.1]
      congr 1; omega
    · rw [rL_c (h0 q e)]; exact h5 q e i hi
  · rw [gB_sL]; exact h6 hb
theorem c_copy9 (hne : s ≠ d) : ∃ σ', F9_copy σ d s = some ((), σ') ∧ Cp 9 d s σ σ' [13, 7, 4, 3, 2, 1, 0] [(12, 6), (11, 6), (10, 6), (9, 6), (7, 8), (6, 8), (5, 8), (4, 8), (2, 6), (1, 6)] [(8, 6), (3, 8)] false := by
  unfold F9_copy
  refine cpF 0 hne (by decide) Cp.z (fun _ h => ?_)
  refine cpF 1 hne (by decide) h (fun _ h => ?_)
  refine cpF 2 hne (by decide) h (fun _ h => ?_)
  refine cpF 3 hne (by decide) h (fun _ h => ?_)
  refine cpF 4 hne (by decide) h (fun _ h => ?_)
  refine cpF 7 hne (by decide) h (fun _ h => ?_)
  refine cpF 13 hne (by decide) h (fun _ h => ?_)
  refine cpI 1 rfl (by omega) hne (by decide) (by decide) h (fun _ h => ?_)
  refine cpI 2 rfl (by omega) hne (by decide) (by decide) h (fun _ h => ?_)
  refine cpL 3 rfl (by omega) hne (by decide) h (fun _ h => ?_)
  refine cpI 4 rfl (by omega) hne (by decide) (by decide) h (fun _ h => ?_)
  refine cpI 5 rfl (by omega) hne (by decide) (by decide) h (fun _ h => ?_)
  refine cpI 6 rfl (by omega) hne (by decide) (by decide) h (fun _ h => ?_)
  refine cpI 7 rfl (by omega) hne (by decide) (by decide) h (fun _ h => ?_)
  refine cpL 8 rfl (by omega) hne (by decide) h (fun _ h => ?_)
  refine cpI 9 rfl (by omega) hne (by decide) (by decide) h (fun _ h => ?_)
  refine cpI 10 rfl (by omega) hne (by decide) (by decide) h (fun _ h => ?_)
  refine cpI 11 rfl (by omega) hne (by decide) (by decide) h (fun _ h => ?_)
  refine cpI 12 rfl (by omega) hne (by decide) (by decide) h (fun _ h => ?_)
  exact ⟨_, rfl, h⟩
theorem c_copy5 (hne : s ≠ d) : ∃ σ', F5_copy σ d s = some ((), σ') ∧ Cp 5 d s σ σ' [2, 1] [(5, 60), (4, 60), (3, 60), (2, 60), (1, 60)] [] true := by
  unfold F5_copy
  refine cpB hne Cp.z (fun _ h => ?_)
  refine cpF 1 hne (by decide) h (fun _ h => ?_)
  refine cpF 2 hne (by decide) h (fun _ h => ?_)
  refine cpI 1 rfl (by omega) hne (by decide) (by decide) h (fun _ h => ?_)
  refine cpI 2 rfl (by omega) hne (by decide) (by decide) h (fun _ h => ?_)
  refine cpI 3 rfl (by omega) hne (by decide) (by decide) h (fun _ h => ?_)
  refine cpI 4 rfl (by omega) hne (by decide) (by decide) h (fun _ h => ?_)
  refine cpI 5 rfl (by omega) hne (by decide) (by decide) h (fun _ h => ?_)
  exact ⟨_, rfl, h⟩
theorem c_copy7 (hne : s ≠ d) : ∃ σ', F7_copy σ d s = some ((), σ') ∧ Cp 7 d s σ σ' [1, 0] [(5, 6), (4, 60), (3, 60), (2, 60), (1, 60)] [] false := by
  unfold F7_copy
  refine cpF 0 hne (by decide) Cp.z (fun _ h => ?_)
  refine cpF 1 hne (by decide) h (fun _ h => ?_)
  refine cpI 1 rfl (by omega) hne (by decide) (by decide) h (fun _ h => ?_)
  refine cpI 2 rfl (by omega) hne (by decide) (by decide) h (fun _ h => ?_)
  refine cpI 3 rfl (by omega) hne (by decide) (by decide) h (fun _ h => ?_)
  refine cpI 4 rfl (by omega) hne (by decide) (by decide) h (fun _ h => ?_)
  refine cpI 5 rfl (by omega) hne (by decide) (by decide) h (fun _ h => ?_)
  exact ⟨_, rfl, h⟩
end CPY
section CPZ
variable {ti ti' ri ri' : VI} {tl tl' : VL} {rb rb' : VB} {c : Nat → Int32} {w : Nat → Int64} {y y' : TYV}
theorem TentR.cp (h : TentR ti tl c w) (o : TentOk c) (hF : ∀ j, j ∈ [13, 7, 4, 3, 2, 1, 0] → ti' 0 j = ti 0 j) (hI : ∀ q, q ∈ [(12, 6), (11, 6), (10, 6), (9, 6), (7, 8), (6, 8), (5, 8), (4, 8), (2, 6), (1, 6)] → ∀ j, j < q.2 → ti' q.1 j = ti q.1 j) (hL : ∀ q, q ∈ [(8, 6), (3, 8)] → ∀ j, j < q.2 → tl' q.1 j = tl q.1 j) : TentR ti' tl' c w := by
  have n4 := ok_n4 o
  have n5 := ok_n5 o
  have n6 := ok_n6 o
  obtain ⟨h0, h1, h2, h3, h4, h5, h6, h7, h8, h9⟩ := h
  refine ⟨by rw [hF 0 (by decide)]; exact h0, by rw [hF 1 (by decide)]; exact h1, by rw [hF 2 (by decide)]; exact h2, by rw [hF 3 (by decide)]; exact h3, by rw [hF 4 (by decide)]; exact h4, by rw [hF 7 (by decide)]; exact h5, by rw [hF 13 (by decide)]; exact h6, fun k hk => ?_, fun k hk => ?_, fun k hk => ?_⟩
  · rw [hI (1, 6) (by decide) k (show k < 6 by omega), hI (2, 6) (by decide) k (show k < 6 by omega)]; exact h7 k hk
  · rw [hL (3, 8) (by decide) k (show k < 8 by omega), hI (4, 8) (by decide) k (show k < 8 by omega), hI (5, 8) (by decide) k (show k < 8 by omega), hI (6, 8) (by decide) k (show k < 8 by omega), hI (7, 8) (by decide) k (show k < 8 by omega)]; exact h8 k hk
  · rw [hL (8, 6) (by decide) k (show k < 6 by omega), hI (9, 6) (by decide) k (show k < 6 by omega), hI (10, 6) (by decide) k (show k < 6 by omega), hI (11, 6) (by decide) k (show k < 6 by omega), hI (12, 6) (by decide) k (show k < 6 by omega)]; exact h9 k hk
theorem Seg_le : ∀ n d s e p q, Seg ri c n d s e p q → p ≤ q := by
  intro n
  induction n with
  | zero => intro d s e p q h; exact Nat.le_of_eq h.2
  | succ n ih =>
    intro d s e p q h
    unfold Seg at h
    rcases h with ⟨-, h⟩ | ⟨-, ⟨-, -, h⟩ | ⟨e1, q1, d1, -, -, -, -, -, h1, h2⟩⟩
    · omega
    · have := ih _ _ _ _ _ h; omega
    · have := ih _ _ _ _ _ h1; have := ih _ _ _ _ _ h2; omega
theorem Seg.cp {Q : Nat} (hr : ∀ k, 1 ≤ k → k ≤ 5 → ∀ j, j < Q → ri' k j = ri k j) : ∀ n d s e p q, q ≤ Q → Seg ri c n d s e p q → Seg ri' c n d s e p q := by
  intro n
  induction n with
  | zero => intro d s e p q _ h; exact h
  | succ n ih =>
    intro d s e p q hq h
    unfold Seg at h ⊢
    rcases h with h | ⟨h0, ⟨h1, h2, h3⟩ | ⟨e1, q1, d1, h1, h2, h3, h4, h5, h6, h7⟩⟩
    · exact .inl h
    · have := Seg_le _ _ _ _ _ _ h3
      refine .inr ⟨h0, .inl ⟨?_, h2, ih _ _ _ _ _ hq h3⟩⟩
      unfold StepS at h1 ⊢
      rw [hr 1 (by omega) (by omega) p (by omega), hr 2 (by omega) (by omega) p (by omega), hr 3 (by omega) (by omega) p (by omega)]; exact h1
    · have a1 := Seg_le _ _ _ _ _ _ h6
      have a2 := Seg_le _ _ _ _ _ _ h7
      refine .inr ⟨h0, .inr ⟨e1, q1, d1, h1, h2, h3, h4, ?_, ih _ _ _ _ _ (by omega) h6, ih _ _ _ _ _ hq h7⟩⟩
      unfold StepB at h5 ⊢
      rw [hr 1 (by omega) (by omega) q1 (by omega), hr 5 (by omega) (by omega) q1 (by omega), hr 5 (by omega) (by omega) p (by omega), hr 1 (by omega) (by omega) p (by omega), hr 2 (by omega) (by omega) p (by omega), hr 3 (by omega) (by omega) p (by omega), hr 4 (by omega) (by omega) p (by omega)]; exact h5
theorem RoundR.cp (h : RoundR ri rb c) (hF : ∀ j, j ∈ [2, 1] → ri' 0 j = ri 0 j) (hI : ∀ q, q ∈ [(5, 60), (4, 60), (3, 60), (2, 60), (1, 60)] → ∀ j, j < q.2 → ri' q.1 j = ri q.1 j) (hB : rb' 0 0 = rb 0 0) : RoundR ri' rb' c := by
  rcases h with ⟨h1, h2⟩ | ⟨h1, h2, N, P, h3, h4, h5, h6, h7, h8⟩
  · exact .inl ⟨hB.trans h1, h2⟩
  · refine .inr ⟨hB.trans h1, h2, N, P, h3, h4, by rw [hF 1 (by decide)]; exact h5, h6, by rw [hF 2 (by decide)]; exact h7, Seg.cp (Q := 60) (fun k k1 k2 j hj => ?_) _ _ _ _ _ _ h4 h8⟩
    rcases (show k = 1 ∨ k = 2 ∨ k = 3 ∨ k = 4 ∨ k = 5 by omega) with rfl | rfl | rfl | rfl | rfl
    · exact hI (1, 60) (by decide) j hj
    · exact hI (2, 60) (by decide) j hj
    · exact hI (3, 60) (by decide) j hj
    · exact hI (4, 60) (by decide) j hj
    · exact hI (5, 60) (by decide) j hj
theorem TallyR.cp {σ σ' : Mem} {d s : Nat} (h : TallyR (TY σ s) c) (hF : ∀ j, j ∈ [1, 0] → gI σ' 7 d 0 j = gI σ 7 s 0 j) (hI : ∀ q, q ∈ [(5, 6), (4, 60), (3, 60), (2, 60), (1, 60)] → ∀ j, j < q.2 → gI σ' 7 d q.1 j = gI σ 7 s q.1 j) : TallyR (TY σ' d) c := by
  obtain ⟨n8, -⟩ := h.ok.n8
  obtain ⟨⟨h1, h2⟩, ⟨h3, h4⟩, h5, h6⟩ := h
  refine ⟨⟨(hF 0 (by decide)).trans h1, (hF 1 (by decide)).trans h2⟩, ⟨h3, h4⟩, fun k hk => (hI (5, 6) (by decide) k hk).trans (h5 k hk), fun k hk => ?_⟩
  obtain ⟨⟨g1, g2, g3, g4⟩, g5⟩ := h6 k hk
  exact ⟨⟨(hI (1, 60) (by decide) k (show k < 60 by omega)).trans g1, (hI (2, 60) (by decide) k (show k < 60 by omega)).trans g2, (hI (3, 60) (by decide) k (show k < 60 by omega)).trans g3, (hI (4, 60) (by decide) k (show k < 60 by omega)).trans g4⟩, g5⟩
/-- a block is taken over whole -/
theorem BlockV.cp {σ σ1 σ2 σ3 : Mem} {t r y0 t' r' y' : Nat} (h : BlockV (gI σ 9 t) (gL σ 9 t) (TY σ y0) (gI σ 5 r) (gB σ 5 r) c w)
    (c9 : Cp 9 t' t σ σ1 [13, 7, 4, 3, 2, 1, 0] [(12, 6), (11, 6), (10, 6), (9, 6), (7, 8), (6, 8), (5, 8), (4, 8), (2, 6), (1, 6)] [(8, 6), (3, 8)] false)
    (c5 : Cp 5 r' r σ1 σ2 [2, 1] [(5, 60), (4, 60), (3, 60), (2, 60), (1, 60)] [] true)
    (c7 : Cp 7 y' y0 σ2 σ3 [1, 0] [(5, 6), (4, 60), (3, 60), (2, 60), (1, 60)] [] false) : BlockV (gI σ3 9 t') (gL σ3 9 t') (TY σ3 y') (gI σ3 5 r') (gB σ3 5 r') c w := by
  obtain ⟨h1, h2, h3, h4⟩ := h
  have e9 : gI σ3 9 t' = gI σ1 9 t' := by funext k; rw [c7.1.fI 9 t' k (by decide), c5.1.fI 9 t' k (by decide)]
  have l9 : gL σ3 9 t' = gL σ1 9 t' := by funext k; rw [c7.1.fL 9 t' k (by decide), c5.1.fL 9 t' k (by decide)]
  have e5 : gI σ3 5 r' = gI σ2 5 r' := by funext k; rw [c7.1.fI 5 r' k (by decide)]
  have b5 : gB σ3 5 r' = gB σ2 5 r' := by funext k; rw [c7.1.fB 5 r' k (by decide)]
  have s5 : gI σ1 5 r = gI σ 5 r := by funext k; rw [c9.1.fI 5 r k (by decide)]
  have q5 : gB σ1 5 r = gB σ 5 r := by funext k; rw [c9.1.fB 5 r k (by decide)]
  have s7 : TY σ2 y0 = TY σ y0 := by simp only [TY, c5.1.fI 7 y0 _ (show 7 ∉ [5] by decide), c9.1.fI 7 y0 _ (show 7 ∉ [9] by decide)]
  refine ⟨h1, ?_, ?_, ?_⟩
  · rw [e9, l9]; exact h2.cp h1 c9.2.2.1 c9.2.2.2.1 c9.2.2.2.2.1
  · rw [← s7] at h3; exact h3.cp c7.2.2.1 c7.2.2.2.1
  · rw [e5, b5]; rw [← s5, ← q5] at h4; exact h4.cp c5.2.2.1 c5.2.2.2.1 (c5.2.2.2.2.2 rfl)
end CPZ
