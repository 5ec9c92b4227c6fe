/-! PURE. round: steps within steps, the class's row of places against the model's recursion. -/
section RRD
variable {σ τ σ1 τ1 σ2 τ2 σ0 τ0 : Mem} {L u r s e k t p w P Z S d x p0 : Nat} {A RI RI1 : VI} {AL : VL} {C C1 M : Nat → Int32} {W : Nat → Int64} {B : Nat → Bool} {N : Int32} {G : Mem → Mem → Prop}
/-- one turn of the class's loop -/
abbrev cIt (σ : Mem) (r t : Nat) (p : Nat) : Option (Bool × Mem) := if gI σ 8 0 0 5 = 28 then (bd (F5_ends σ r) fun v s => if v = true then F8_takeSemicolon s else some (false, s)) else cHdr σ r t (gI σ 8 0 0 5) p
theorem cl_it (hk : ¬ gI σ 8 0 0 4 = 0) (hx : x < 300) (hp : gI σ 5 r 0 2 = nI p) (n : Nat) : F5_parse_L6 r t (n + 1) σ (nI x) = bd (cIt σ r t p) fun v s => if v = true then F5_parse_L6 r t n s (nI (x + 1)) else some (false, s) := by
  simp only [F5_parse_L6.eq_2]
  rw [if_neg (show ¬ (300 : Int32) ≤ nI x from nI_ge (a := x) (b := 300) hx (by omega)), if_neg hk, bnd_eq, bnd_eq, hp]
  unfold cIt cHdr cRest F5_parse_p75
  by_cases c : gI σ 8 0 0 5 = 28
  · rw [if_pos c, if_pos c]
    simp only [bd_assoc, bd_bnd, bd_chk, bd_ite, bdS, bd_obind, bd_id, bd_u, nI_1, Bool.false_eq_true, if_false]
  · rw [if_neg c, if_neg c]
    simp only [bd_assoc, bd_bnd, bd_chk, bd_ite, bdS, bd_obind, bd_id, bd_u, nI_1, Bool.false_eq_true, if_false, if_true]
theorem cl_go {σ' : Mem} (hk : ¬ gI σ 8 0 0 4 = 0) (hx : x < 300) (hp : gI σ 5 r 0 2 = nI p) (h : cIt σ r t p = some (true, σ')) (n : Nat) : F5_parse_L6 r t (n + 1) σ (nI x) = F5_parse_L6 r t n σ' (nI (x + 1)) := by
  rw [cl_it hk hx hp, h, bdS, if_pos rfl]
theorem cl_no {σ' : Mem} (hk : ¬ gI σ 8 0 0 4 = 0) (hx : x < 300) (hp : gI σ 5 r 0 2 = nI p) (h : cIt σ r t p = some (false, σ')) (n : Nat) : F5_parse_L6 r t (n + 1) σ (nI x) = some (false, σ') := by
  rw [cl_it hk hx hp, h, bdS, if_neg (by decide)]
theorem b_p83 (h : BS u r σ0 τ0 σ τ) {rec : Mem → Int32 → Option (Unit × Mem)} {a b : Int32} {z : Bool} : F12_readStep_p83 rec τ a b z = some ((), τ) := by unfold F12_readStep_p83; rw [if_neg h.n1]
theorem b_p57 (h : BS u r σ0 τ0 σ τ) {rec : Mem → Int32 → Option (Unit × Mem)} {a b : Int32} {z : Bool} : F12_readStep_p57 rec τ a b z = some ((), τ) := by unfold F12_readStep_p57; rw [if_neg h.n2]; exact b_p83 h
theorem b_p31 (h : BS u r σ0 τ0 σ τ) {rec : Mem → Int32 → Option (Unit × Mem)} {a b : Int32} {z : Bool} : F12_readStep_p31 rec τ a b z = some ((), τ) := by unfold F12_readStep_p31; rw [if_neg h.n2]; exact b_p57 h
/-- behind a block's end -/
def EG (L u r : Nat) (σ0 τ0 : Mem) (s S p p0 d : Nat) (A : VI) (AL : VL) (RI : VI) (C : Nat → Int32) (W : Nat → Int64) (B : Nat → Bool) (σ τ : Mem) : Prop :=
  ∃ s' e' RI', s < s' ∧ GS L u r σ0 τ0 s' e' A AL RI' C W B (nI S) σ τ ∧ RI3 RI' S (p + 1) d ∧ (∀ x j, 1 ≤ x → x ≤ 5 → ¬ j = p → ¬ (x = 5 ∧ j = p0) → RI' x j = RI x j) ∧ (RI' 1 p = 28 ∧ RI' 5 p = nI p0 ∧ RI' 5 p0 = nI p) ∧ ∀ j, RI' 6 j = RI 6 j
theorem end_it (h : GS L u r σ0 τ0 s e A AL RI C W B (nI S) σ τ) (ri : RI3 RI S p (d + 1)) (hd : d < 3) (hp : p < 60) (h0 : p0 < p) (ho : RI 6 d = nI p0) (hw : wix τ = nI 28) :
    Fin2 u r σ0 τ0 (EG L u r σ0 τ0 s S p p0 d A AL RI C W B) (bd (F5_ends σ r) fun v s => if v = true then F8_takeSemicolon s else some (false, s)) (bd (F12_must τ (F12_isEnd τ)) fun _ s => F12_must s (F12_isSign s 59)) := by
  obtain ⟨r1, r2, r3⟩ := ri
  have e1 : gI σ 5 r 0 1 = nI S := by rw [h.2.2.1.2.2]; exact r1
  have e2 : gI σ 5 r 0 2 = nI p := by rw [h.2.2.1.2.2]; exact r2
  have e8 : gI σ 5 r 0 8 = nI (d + 1) := by rw [h.2.2.1.2.2]; exact r3
  have e6 : gI σ 5 r 6 d = nI p0 := by rw [h.2.2.1.2.2]; exact ho
  have em : nI (d + 1) - 1 = nI d := by rw [show (1 : Int32) = nI 1 from rfl, pk_sub (by omega)]; rfl
  have eb : F5_ends σ r = bd (F8_advance (sI (sI (sI (sI (sI σ 5 r 0 8 (nI d)) 5 r 1 p 28) 5 r 5 p (nI p0)) 5 r 5 p0 (nI p)) 5 r 0 2 (nI (p + 1)))) fun _ s => some (true, s) := by
    have f2 : gI (sI σ 5 r 0 8 (nI d)) 5 r 0 2 = nI p := by rw [rI_n (by decide)]; exact e2
    have f8 : gI (sI σ 5 r 0 8 (nI d)) 5 r 0 8 = nI d := rI_s
    have f6 : gI (sI σ 5 r 0 8 (nI d)) 5 r 6 d = nI p0 := by rw [rI_c (by decide)]; exact e6
    have g2 : gI (sI (sI σ 5 r 0 8 (nI d)) 5 r 1 p 28) 5 r 0 2 = nI p := by rw [rI_c (by decide)]; exact f2
    have i2 : gI (sI (sI (sI σ 5 r 0 8 (nI d)) 5 r 1 p 28) 5 r 5 p (nI p0)) 5 r 0 2 = nI p := by rw [rI_c (by decide)]; exact g2
    have j2 : gI (sI (sI (sI (sI σ 5 r 0 8 (nI d)) 5 r 1 p 28) 5 r 5 p (nI p0)) 5 r 5 p0 (nI p)) 5 r 0 2 = nI p := by rw [rI_c (by decide)]; exact i2
    unfold F5_ends
    rw [e8, if_neg (nI_nle (by omega) (by omega)), e2, if_pos (show nI p < (60 : Int32) from nI_lt (b := 60) hp (by omega)), em, bnd_eq, f8, ald_nI hd (by omega), Option.bind_some, f6, f2, chk_nI hp (by omega), bnd_eq, cl_nI (by omega), g2, chk_nI hp (by omega), bnd_eq, cl_nI (by omega), chk_nI (by omega) (by omega), bnd_eq, cl_nI (by omega), i2, bnd_eq, j2, nI_1]
  rw [eb, bd_assoc]
  simp only [bdS, if_true]
  rw [show F12_isEnd τ = true from (w_end (τ := τ)).mpr hw, must_yes h.ok]
  obtain ⟨σ1, τ1, s1, e1', o1, o2, l1, h1, -⟩ := (((((h.c5 (c := 0) (j := 8) (v := nI d)).c5 (c := 1) (j := p) (v := 28)).c5 (c := 5) (j := p) (v := nI p0)).c5 (c := 5) (j := p0) (v := nI p)).c5 (c := 0) (j := 2) (v := nI (p + 1))).nxt (go1 (wix_go (i := 28) (by omega) hw))
  rw [o1, o2, bdS, bdS]
  refine k_semi h1 (fun σ9 τ9 s9 e9 l9 h9 => ⟨s9, e9, _, by omega, h9, ⟨?_, ?_, ?_⟩, fun x j a b c1 c2 => ?_, ⟨?_, ?_, ?_⟩, fun j => ?_⟩)
  · rw [uV_n (by omega), uV_n (by omega), uV_n (by omega), uV_n (by omega), uV_n (by omega)]; exact r1
  · rw [uV_s]
  · rw [uV_n (by omega), uV_n (by omega), uV_n (by omega), uV_n (by omega), uV_s]
  · rw [uV_n (by omega), uV_n (by omega), uV_n (by omega), uV_n (by omega), uV_n (by omega)]
  · rw [uV_n (by omega), uV_n (by omega), uV_n (by omega), uV_s]
  · rw [uV_n (by omega), uV_n (by omega), uV_s]
  · rw [uV_n (by omega), uV_s]
  · rw [uV_n (by omega), uV_n (by omega), uV_n (by omega), uV_n (by omega), uV_n (by omega)]
/-- a stretch is read: from s, S steps, p places; q more bytes at least -/
def RdO (L u r t : Nat) (σ0 τ0 : Mem) (A : VI) (AL : VL) (W : Nat → Int64) (B : Nat → Bool) (M : Nat → Int32) (q s S p d x : Nat) (RI : VI) (C : Nat → Int32) (σ σ' τ' : Mem) (Q : Mem → Prop) : Prop :=
  ∃ K x' s' e' S' p' RI' C', (∀ n, F5_parse_L6 r t (n + K) σ (nI x) = F5_parse_L6 r t n σ' (nI x')) ∧ K + s ≤ s' ∧ x' ≤ s' ∧ s + q ≤ s' ∧ GS L u r σ0 τ0 s' e' A AL RI' C' W B (nI S') σ' τ' ∧ (RI3 RI' S' p' d ∧ p' + d ≤ 2 * S' ∧ S' ≤ 30 ∧ S ≤ S' ∧ p ≤ p') ∧
    Seg RI' (mix M C') (S' - S + 1) (3 - d) S S' p p' ∧ (∀ x j, 1 ≤ x → x ≤ 5 → j < p → RI' x j = RI x j) ∧ (∀ j, j < d → RI' 6 j = RI 6 j) ∧ (∀ j, j < 2725 + 9 * S → C' j = C j) ∧ Q τ'
/-- it is bad, on both sides -/
def RdB (L u r t : Nat) (σ0 τ0 : Mem) (s x : Nat) (σ σ' τ' : Mem) : Prop := BS u r σ0 τ0 σ' τ' ∧ ∃ K, K + s ≤ L + 1 ∧ ∀ n, F5_parse_L6 r t (n + K) σ (nI x) = some (false, σ')
theorem RdO.z {Q : Mem → Prop} (h : GS L u r σ0 τ0 s e A AL RI C W B (nI S) σ τ) (ri : RI3 RI S p d) (h2 : p + d ≤ 2 * S) (h3 : S ≤ 30) (hx : x ≤ s) (q : Q τ) : RdO L u r t σ0 τ0 A AL W B M 0 s S p d x RI C σ σ τ Q :=
  ⟨0, x, s, e, S, p, RI, C, fun _ => rfl, by omega, hx, by omega, h, ⟨ri, h2, h3, Nat.le_refl _, Nat.le_refl _⟩, .inl ⟨rfl, rfl⟩, fun _ _ _ _ _ => rfl, fun _ _ => rfl, fun _ _ => rfl, q⟩
theorem mix_cong {C' : Nat → Int32} (h : ∀ j, j < 2725 + 9 * S → C' j = C j) : mix M C' 5 = mix M C 5 ∧ mix M C' 6 = mix M C 6 ∧ ∀ j, j < 325 + 9 * S → mix M C' j = mix M C j := by
  refine ⟨by rw [mix_lo (by omega), mix_lo (by omega)], by rw [mix_lo (by omega), mix_lo (by omega)], fun j hj => ?_⟩
  by_cases c : j < 325
  · rw [mix_lo c, mix_lo c]
  · rw [mix_hi (by omega), mix_hi (by omega), h _ (by omega)]
/-- two stretches, one behind the other; K, s1 ..: what the first came to -/
theorem RdO.seq {Q : Mem → Prop} {K x1 s1 S1 p1 q q' : Nat} (g1 : ∀ n, F5_parse_L6 r t (n + K) σ (nI x) = F5_parse_L6 r t n σ1 (nI x1)) (g2 : K + s ≤ s1) (g3 : s + q ≤ s1) (g4 : S ≤ S1) (g5 : p ≤ p1)
    (sg : Seg RI1 (mix M C1) (S1 - S + 1) (3 - d) S S1 p p1) (f1 : ∀ x j, 1 ≤ x → x ≤ 5 → j < p → RI1 x j = RI x j) (f2 : ∀ j, j < d → RI1 6 j = RI 6 j) (f3 : ∀ j, j < 2725 + 9 * S → C1 j = C j)
    (h : RdO L u r t σ0 τ0 A AL W B M q' s1 S1 p1 d x1 RI1 C1 σ1 σ2 τ2 Q) : RdO L u r t σ0 τ0 A AL W B M q s S p d x RI C σ σ2 τ2 Q := by
  obtain ⟨K2, x2, s2, e2, S2, p2, RI2, C2, a1, a2, a3, a4, a5, ⟨a6, a7, a8, a9, a10⟩, a11, a12, a13, a14, a15⟩ := h
  obtain ⟨m1, m2, m3⟩ := mix_cong (M := M) (S := S1) a14
  refine ⟨K2 + K, x2, s2, e2, S2, p2, RI2, C2, fun n => ?_, by omega, a3, by omega, a5, ⟨a6, a7, a8, by omega, by omega⟩, ?_, fun x j b1 b2 b3 => ?_, fun j hj => (a13 j hj).trans (f2 j hj), fun j hj => (a14 j (by omega)).trans (f3 j hj), a15⟩
  · rw [← Nat.add_assoc, g1, a1]
  · exact Seg.app _ _ _ _ _ _ _ _ _ (Seg.loc m1 m2 _ _ _ _ _ _ (fun k b1 b2 j b3 b4 => a12 k j b1 b2 b4) (fun j b1 b2 => m3 j b2) sg) a11 a9
  · exact (a12 x j b1 b2 (by omega)).trans (f1 x j b1 b2 b3)
theorem RdB.seq {K x1 s1 : Nat} (g1 : ∀ n, F5_parse_L6 r t (n + K) σ (nI x) = F5_parse_L6 r t n σ1 (nI x1)) (g2 : K + s ≤ s1) (h : RdB L u r t σ0 τ0 s1 x1 σ1 σ2 τ2) : RdB L u r t σ0 τ0 s x σ σ2 τ2 := by
  obtain ⟨b, K2, k1, k2⟩ := h
  exact ⟨b, K2 + K, by omega, fun n => by rw [← Nat.add_assoc, g1, k2]⟩
theorem RdO.seq' {Q Q' : Mem → Prop} {q q' s1 S1 p1 x1 : Nat} {τ1 : Mem} (h1 : RdO L u r t σ0 τ0 A AL W B M q s S p d x RI C σ σ1 τ1 Q') (h : ∀ e1 RI1 C1 s1 S1 p1 x1, GS L u r σ0 τ0 s1 e1 A AL RI1 C1 W B (nI S1) σ1 τ1 → RI3 RI1 S1 p1 d → p1 + d ≤ 2 * S1 → S1 ≤ 30 → x1 ≤ s1 → s + q ≤ s1 → Q' τ1 →
    RdO L u r t σ0 τ0 A AL W B M q' s1 S1 p1 d x1 RI1 C1 σ1 σ2 τ2 Q) : RdO L u r t σ0 τ0 A AL W B M q s S p d x RI C σ σ2 τ2 Q := by
  obtain ⟨K, x1, s1, e1, S1, p1, RI1, C1, a1, a2, a3, a4, a5, ⟨a6, a7, a8, a9, a10⟩, a11, a12, a13, a14, a15⟩ := h1
  exact RdO.seq a1 a2 a4 a9 a10 a11 a12 a13 a14 (h e1 RI1 C1 s1 S1 p1 x1 a5 a6 a7 a8 a3 a4 a15)
theorem isStep_st : ∀ i : Fin 30, F5_isStep (nI i.val) = true ↔ ¬ stW (nI i.val) = -1 := by decide +kernel
theorem step_kinds : ∀ i : Fin 30, ¬ stW (nI i.val) = -1 → (((nI i.val = 17 ∧ stW (nI i.val) = 0) ∨ (nI i.val = 18 ∧ stW (nI i.val) = 1) ∨ (nI i.val = 13 ∧ stW (nI i.val) = 2) ∨ (nI i.val = 19 ∧ stW (nI i.val) = 3) ∨ (nI i.val = 20 ∧ stW (nI i.val) = 4) ∨ (nI i.val = 21 ∧ stW (nI i.val) = 5) ∨ (nI i.val = 22 ∧ stW (nI i.val) = 6) ∨ (nI i.val = 29 ∧ stW (nI i.val) = 9)) ∨ ((nI i.val = 23 ∧ stW (nI i.val) = 7) ∨ (nI i.val = 27 ∧ stW (nI i.val) = 8))) := by decide +kernel
theorem st_range (x : Int32) : stW x = -1 ∨ (0 ≤ stW x) := by
  unfold stW
  repeat' split
  all_goals first
    | exact .inl rfl
    | exact .inr (by decide)
/-- what is read where a step must stand -/
def StepIs (L u r t : Nat) (σ0 τ0 : Mem) (A : VI) (AL : VL) (W : Nat → Int64) (B : Nat → Bool) (M : Nat → Int32) (m : Nat) : Prop :=
  ∀ D d S p x s e RI C σ τ, L - s ≤ m → 4 ≤ D + d → d ≤ 3 → GS L u r σ0 τ0 s e A AL RI C W B (nI S) σ τ → RI3 RI S p d → p + d ≤ 2 * S → S ≤ 30 → x ≤ s → (d = 0 → ¬ gI τ 12 0 0 14 = 0) → (¬ d = 0 → ¬ wix τ = nI 28) →
    ∃ σ' τ', R12_readStep D τ (nI d) = some ((), τ') ∧ (RdO L u r t σ0 τ0 A AL W B M 1 s S p d x RI C σ σ' τ' (fun _ => True) ∨ RdB L u r t σ0 τ0 s x σ σ' τ')
/-- what is read within a block -/
def InnerIs (L u r t : Nat) (σ0 τ0 : Mem) (A : VI) (AL : VL) (W : Nat → Int64) (B : Nat → Bool) (M : Nat → Int32) (m : Nat) : Prop :=
  ∀ D d S p x s e RI C σ τ w f, L - s ≤ m → 3 ≤ D + d → d + 1 ≤ 3 → GS L u r σ0 τ0 s e A AL RI C W B (nI S) σ τ → RI3 RI S p (d + 1) → p + (d + 1) ≤ 2 * S → S ≤ 30 → x ≤ s → m + 1 < f →
    ∃ σ' τ', F12_readStep_L142 (R12_readStep D) (nI d) true w f τ = some ((), τ') ∧ (RdO L u r t σ0 τ0 A AL W B M 0 s S p (d + 1) x RI C σ σ' τ' (fun τ => wix τ = nI 28) ∨ RdB L u r t σ0 τ0 s x σ σ' τ')
theorem inner_is {m : Nat} (st : StepIs L u r t σ0 τ0 A AL W B M m) (ih : ∀ k, k < m → InnerIs L u r t σ0 τ0 A AL W B M k) : InnerIs L u r t σ0 τ0 A AL W B M m := by
  intro D d S p x s e RI C σ τ w f hm hD hd h ri h2 h3 hx hf
  obtain ⟨f, rfl⟩ : ∃ k, f = k + 1 := ⟨f - 1, by omega⟩
  simp only [F12_readStep_L142.eq_2]
  rw [if_pos trivial, if_pos h.2.1.1]
  by_cases k : wix τ = nI 28
  · rw [if_pos ((w_end (τ := τ)).mpr k)]
    exact ⟨σ, τ, rfl, .inl (RdO.z h ri h2 h3 hx k)⟩
  rw [if_neg (fun e => k ((w_end (τ := τ)).mp e)), nI_1]
  obtain ⟨σ1, τ1, o1, o2⟩ := st D (d + 1) S p x s e RI C σ τ hm (by omega) hd h ri h2 h3 hx (fun e => absurd e (by omega)) (fun _ => k)
  rw [o1, bdS]
  rcases o2 with ok | ⟨b, K, k1, k2⟩
  · obtain ⟨K, x1, s1, e1, S1, p1, RI1, C1, a1, a2, a3, a4, a5, ⟨a6, a7, a8, a9, a10⟩, a11, a12, a13, a14, a15⟩ := ok
    have hl := a5.len
    have hl0 := h.len
    by_cases hz : L - s1 < m
    · obtain ⟨σ2, τ2, q1, q2⟩ := ih (L - s1) hz D d S1 p1 x1 s1 e1 RI1 C1 σ1 τ1 w f (Nat.le_refl _) hD hd a5 a6 a7 a8 a3 (by omega)
      refine ⟨σ2, τ2, q1, ?_⟩
      rcases q2 with q2 | q2
      · exact .inl (RdO.seq a1 a2 (by omega) a9 a10 a11 a12 a13 a14 q2)
      · exact .inr (RdB.seq a1 a2 q2)
    · exfalso; omega
  · obtain ⟨f, rfl⟩ : ∃ k, f = k + 1 := ⟨f - 1, by omega⟩
    simp only [F12_readStep_L142.eq_2]
    rw [if_pos trivial, if_neg b.n2]
    exact ⟨σ1, τ1, rfl, .inr ⟨b, K, k1, k2⟩⟩
end RRD
