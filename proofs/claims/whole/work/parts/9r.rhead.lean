/-! PURE. round: a step's beginning; stretches put together. -/
section SEG
variable {ri ri' : VI} {c c' : Nat → Int32}
theorem Seg.trim : ∀ n m d s e p q, Seg ri c n d s e p q → e - s < m → Seg ri c m d s e p q := by
  intro n
  induction n with
  | zero =>
    intro m d s e p q h hm
    obtain ⟨m, rfl⟩ : ∃ k, m = k + 1 := ⟨m - 1, by omega⟩
    exact .inl h
  | succ n ih =>
    intro m d s e p q h hm
    obtain ⟨m, rfl⟩ : ∃ k, m = k + 1 := ⟨m - 1, by omega⟩
    unfold Seg at h ⊢
    rcases h with h | ⟨h0, ⟨h1, h2, h3⟩ | ⟨e1, q1, d1, h1, h2, h3, h4, h5, h6, h7⟩⟩
    · exact .inl h
    · exact .inr ⟨h0, .inl ⟨h1, h2, ih m _ _ _ _ _ h3 (by omega)⟩⟩
    · exact .inr ⟨h0, .inr ⟨e1, q1, d1, h1, h2, h3, h4, h5, ih m _ _ _ _ _ h6 (by omega), ih m _ _ _ _ _ h7 (by omega)⟩⟩
theorem Seg.app : ∀ n m d s e1 e p q1 q, Seg ri c n d s e1 p q1 → Seg ri c m d e1 e q1 q → e1 ≤ e → Seg ri c (e - s + 1) d s e p q := by
  intro n
  induction n with
  | zero =>
    intro m d s e1 e p q1 q h k he
    obtain ⟨rfl, rfl⟩ := h
    exact Seg.trim _ _ _ _ _ _ _ k (by omega)
  | succ n ih =>
    intro m d s e1 e p q1 q h k he
    unfold Seg at h
    rcases h with ⟨rfl, rfl⟩ | ⟨h0, ⟨h1, h2, h3⟩ | ⟨e2, q2, d1, h1, h2, h3, h4, h5, h6, h7⟩⟩
    · exact Seg.trim _ _ _ _ _ _ _ k (by omega)
    · have := ih m _ _ _ e _ _ _ h3 k he
      unfold Seg
      exact .inr ⟨by omega, .inl ⟨h1, h2, Seg.trim _ _ _ _ _ _ _ this (by omega)⟩⟩
    · have := ih m _ _ _ e _ _ _ h7 k he
      unfold Seg
      exact .inr ⟨by omega, .inr ⟨e2, q2, d1, h1, h2, by omega, h4, h5, Seg.trim _ _ _ _ _ _ _ h6 (by omega), Seg.trim _ _ _ _ _ _ _ this (by omega)⟩⟩
theorem Seg.loc (c5 : c' 5 = c 5) (c6 : c' 6 = c 6) : ∀ n d s e p q, (∀ k, 1 ≤ k → k ≤ 5 → ∀ j, p ≤ j → j < q → ri' k j = ri k j) → (∀ j, 325 + 9 * s ≤ j → j < 325 + 9 * e → c' j = c j) → Seg ri c n d s e p q → Seg ri' c' n d s e p q := by
  intro n
  induction n with
  | zero => intro d s e p q _ _ h; exact h
  | succ n ih =>
    intro d s e p q hr hc h
    unfold Seg at h ⊢
    rcases h with h | ⟨h0, ⟨h1, h2, h3⟩ | ⟨e1, q1, d1, h1, h2, h3, h4, h5, h6, h7⟩⟩
    · exact .inl h
    · have l := Seg_le _ _ _ _ _ _ h3
      refine .inr ⟨h0, .inl ⟨?_, by rw [hc _ (by omega) (by omega)]; exact h2, ih _ _ _ _ _ (fun k a b j u v => hr k a b j (by omega) v) (fun j u v => hc j (by omega) v) h3⟩⟩
      unfold StepS at h1 ⊢
      rw [c5, c6, hr 1 (by omega) (by omega) p (by omega) (by omega), hr 2 (by omega) (by omega) p (by omega) (by omega), hr 3 (by omega) (by omega) p (by omega) (by omega), hc (325 + 9 * s) (by omega) (by omega), hc (325 + 9 * s + 1) (by omega) (by omega), hc (325 + 9 * s + 2) (by omega) (by omega)]; exact h1
    · have l1 := Seg_le _ _ _ _ _ _ h6
      have l2 := Seg_le _ _ _ _ _ _ h7
      refine .inr ⟨h0, .inr ⟨e1, q1, d1, h1, h2, h3, by rw [hc _ (by omega) (by omega)]; exact h4, ?_, ih _ _ _ _ _ (fun k a b j u v => hr k a b j (by omega) (by omega)) (fun j u v => hc j (by omega) (by omega)) h6, ih _ _ _ _ _ (fun k a b j u v => hr k a b j (by omega) v) (fun j u v => hc j (by omega) v) h7⟩⟩
      unfold StepB at h5 ⊢
      rw [c6, hr 1 (by omega) (by omega) q1 (by omega) (by omega), hr 5 (by omega) (by omega) q1 (by omega) (by omega), hr 5 (by omega) (by omega) p (by omega) (by omega), hr 1 (by omega) (by omega) p (by omega) (by omega), hr 2 (by omega) (by omega) p (by omega) (by omega), hr 3 (by omega) (by omega) p (by omega) (by omega), hr 4 (by omega) (by omega) p (by omega) (by omega),
        hc (325 + 9 * s) (by omega) (by omega), hc (325 + 9 * s + 1) (by omega) (by omega), hc (325 + 9 * s + 2) (by omega) (by omega), hc (325 + 9 * s + 6) (by omega) (by omega), hc (325 + 9 * s + 7) (by omega) (by omega)]; exact h5
end SEG
section RRC
variable {σ τ σ1 τ1 σ2 τ2 σ0 τ0 : Mem} {L u r s e k t p w P Z S d : Nat} {A RI RI1 : VI} {AL : VL} {C C1 M : Nat → Int32} {W : Nat → Int64} {B : Nat → Bool} {N : Int32} {G : Mem → Mem → Prop}
/-- the cells as they will be: the tent's, and the new steps -/
def mix (M C : Nat → Int32) : Nat → Int32 := fun j => if j < 325 then M j else C (2400 + j)
theorem mix_lo {j : Nat} (h : j < 325) : mix M C j = M j := if_pos h
theorem mix_hi {j : Nat} (h : 325 ≤ j) : mix M C j = C (2400 + j) := if_neg (by omega)
/-- a when or a loop before its end is known -/
def StepB2 (ri : VI) (c : Nat → Int32) (w p : Nat) : Prop :=
  (c w = 7 ∧ ri 1 p = 23 ∧ ri 3 p = c (w + 7) ∧ ri 4 p = c (w + 2) ∧ (c (w + 7) = 60 ∨ c (w + 7) = 61 ∨ c (w + 7) = 62) ∧
    ((c (w + 6) = 0 ∧ ∃ i, i < nat (c 6) ∧ ri 2 p = nI i ∧ c (w + 1) = nI i) ∨ (c (w + 6) = 1 ∧ ri 2 p = -1) ∨ (c (w + 6) = 2 ∧ ri 2 p = -2))) ∨
   (c w = 8 ∧ ri 1 p = 27 ∧ ri 2 p = c (w + 1) ∧ 1 ≤ c (w + 1) ∧ c (w + 1) ≤ 99)
/-- where the reading of a round stands: S steps, p places, d deep -/
def RI3 (RI : VI) (S p d : Nat) : Prop := RI 0 1 = nI S ∧ RI 0 2 = nI p ∧ RI 0 8 = nI d
/-- a step's beginning and rest in the class, in the model -/
abbrev cHdr (σ : Mem) (r t : Nat) (x : Int32) (p : Nat) : Option (Bool × Mem) := bd (F5_begins σ r x) fun v s => if v = true then cRest s r t x p else some (false, s)
abbrev mHdr (τ : Mem) (S w : Nat) (kd : Int32) : Option (Unit × Mem) := bnd (sI τ 12 0 0 27 (nI (S + 1))) fun s_3 => bd (F12_next s_3) fun _ s_4 => chk 3000 (nI w) <| bnd (sI s_4 12 0 5 (Int32.toNatClampNeg (nI w)) kd) fun s_5 => mRest s_5 w
/-- what a step's beginning comes to -/
def HG (L u r : Nat) (σ0 τ0 : Mem) (s S p d d' : Nat) (A : VI) (AL : VL) (RI : VI) (C : Nat → Int32) (W : Nat → Int64) (B : Nat → Bool) (Q : VI → (Nat → Int32) → Prop) (σ τ : Mem) : Prop :=
  ∃ s' e' RI' C', s < s' ∧ GS L u r σ0 τ0 s' e' A AL RI' C' W B (nI (S + 1)) σ τ ∧ RI3 RI' (S + 1) (p + 1) d' ∧ (∀ x j, 1 ≤ x → x ≤ 5 → ¬ j = p → RI' x j = RI x j) ∧ (∀ j, j < d → RI' 6 j = RI 6 j) ∧ (∀ j, j < 2725 + 9 * S → C' j = C j) ∧ Q RI' C'
theorem steps_n6 (nm : NmOk t P Z σ0 τ0) (hM : ∀ j, j < 325 → M j = gI τ0 12 0 5 j) : nat (M 5) = P ∧ nat (M 6) = Z := by
  obtain ⟨⟨n1, n2⟩, ⟨-, n4, -⟩, -, n7, -⟩ := nm
  exact ⟨by rw [hM 5 (by omega), n4]; exact nat_nI (by omega), by rw [hM 6 (by omega), n7]; exact nat_nI (by omega)⟩
/-- a simple step -/
theorem hdr_S (h : GS L u r σ0 τ0 s e A AL RI C W B (nI S) σ τ) (nm : NmOk t P Z σ0 τ0) (ht : t ≠ u) (hM : ∀ j, j < 325 → M j = gI τ0 12 0 5 j) (ri : RI3 RI S p d) (hS : S < 30) (hp : p < 60) {x kd : Int32} (hx : wix τ = x)
    (hk : (x = 17 ∧ kd = 0) ∨ (x = 18 ∧ kd = 1) ∨ (x = 13 ∧ kd = 2) ∨ (x = 19 ∧ kd = 3) ∨ (x = 20 ∧ kd = 4) ∨ (x = 21 ∧ kd = 5) ∨ (x = 22 ∧ kd = 6) ∨ (x = 29 ∧ kd = 9)) (g : Go τ) :
    Fin2 u r σ0 τ0 (HG L u r σ0 τ0 s S p d d A AL RI C W B fun R' C' => StepS R' (mix M C') (325 + 9 * S) p) (cHdr σ r t x p) (mHdr τ S (2725 + 9 * S) kd) := by
  obtain ⟨r1, r2, r3⟩ := ri
  obtain ⟨m5, m6⟩ := steps_n6 nm hM
  have e1 : gI σ 5 r 0 1 = nI S := by rw [h.2.2.1.2.2]; exact r1
  have e2 : gI σ 5 r 0 2 = nI p := by rw [h.2.2.1.2.2]; exact r2
  have eb : F5_begins σ r x = bd (F8_advance (sI (sI (sI σ 5 r 1 p x) 5 r 0 1 (nI (S + 1))) 5 r 0 2 (nI (p + 1)))) fun _ s => some (true, s) := by
    have st : F5_isStep x = true := by rcases hk with ⟨rfl, -⟩ | ⟨rfl, -⟩ | ⟨rfl, -⟩ | ⟨rfl, -⟩ | ⟨rfl, -⟩ | ⟨rfl, -⟩ | ⟨rfl, -⟩ | ⟨rfl, -⟩ <;> decide
    have n23 : ¬ x = 23 := by rcases hk with ⟨rfl, -⟩ | ⟨rfl, -⟩ | ⟨rfl, -⟩ | ⟨rfl, -⟩ | ⟨rfl, -⟩ | ⟨rfl, -⟩ | ⟨rfl, -⟩ | ⟨rfl, -⟩ <;> decide
    have n27 : ¬ x = 27 := by rcases hk with ⟨rfl, -⟩ | ⟨rfl, -⟩ | ⟨rfl, -⟩ | ⟨rfl, -⟩ | ⟨rfl, -⟩ | ⟨rfl, -⟩ | ⟨rfl, -⟩ | ⟨rfl, -⟩ <;> decide
    unfold F5_begins F5_begins_p88
    rw [if_pos st, e1, if_neg (show ¬ (30 : Int32) ≤ nI S from nI_ge (a := S) (b := 30) hS (by omega)), e2, if_pos (show nI p < (60 : Int32) from nI_lt (b := 60) hp (by omega)), if_neg n23, if_neg n27, chk_nI hp (by omega), bnd_eq, cl_nI (by omega), bnd_eq, bnd_eq, rI_c (by decide), e1, nI_1, rI_n (by decide), rI_c (by decide), e2, nI_1]
  unfold cHdr mHdr
  rw [eb, bnd_eq]
  obtain ⟨σ1, τ1, s1, e1', o1, o2, l1, h1, -⟩ := (((h.c5 (c := 1) (j := p) (v := x)).c5 (c := 0) (j := 1) (v := nI (S + 1))).c5 (c := 0) (j := 2) (v := nI (p + 1))).mN (v := nI (S + 1)) |>.nxt (by
    refine ⟨?_, ?_⟩
    · rw [rI_n (by decide)]; exact g.1
    · rw [rI_n (by decide)]; exact g.2)
  rw [o1, o2]
  simp only [bdS, if_true]
  refine k_m5 h1 rfl (by omega) (by omega) (fun τ2 h2 _ => ?_)
  have done : ∀ {Q : VI → (Nat → Int32) → Prop} {X : Option (Bool × Mem)} {Y : Option (Unit × Mem)}, Fin2 u r σ0 τ0 (RG L u r σ0 τ0 s1 p (2725 + 9 * S) A AL (uV (uV (uV RI 1 p x) 0 1 (nI (S + 1))) 0 2 (nI (p + 1))) (upd C (2725 + 9 * S) kd) W B (nI (S + 1)) Q) X Y →
      (∀ R' C', R' 1 p = x → C' (2725 + 9 * S) = kd → Q R' C' → StepS R' (mix M C') (325 + 9 * S) p) → Fin2 u r σ0 τ0 (HG L u r σ0 τ0 s S p d d A AL RI C W B fun R' C' => StepS R' (mix M C') (325 + 9 * S) p) X Y := by
    intro Q X Y hf hq
    obtain ⟨σ', τ', y1, ⟨x1, s', e', R', C', q1, q2, q3, q4, q5⟩ | ⟨x1, b1⟩⟩ := hf
    · refine ⟨σ', τ', y1, .inl ⟨x1, s', e', R', C', by omega, q2, ⟨?_, ?_, ?_⟩, fun x j a b c => ?_, fun j hj => ?_, fun j hj => ?_, hq R' C' ?_ ?_ q5⟩⟩
      · rw [q3 _ _ (by omega), uV_n (by omega), uV_s]
      · rw [q3 _ _ (by omega), uV_s]
      · rw [q3 _ _ (by omega), uV_n (by omega), uV_n (by omega), uV_n (by omega)]; exact r3
      · rw [q3 _ _ (by omega), uV_n (by omega), uV_n (by omega), uV_n (by omega)]
      · rw [q3 _ _ (by omega), uV_n (by omega), uV_n (by omega), uV_n (by omega)]
      · rw [q4 _ (by omega), upd_ne (by omega)]
      · rw [q3 _ _ (by omega), uV_n (by omega), uV_n (by omega), uV_s]
      · rw [q4 _ (by omega), upd_s]
    · exact ⟨σ', τ', y1, .inr ⟨x1, b1⟩⟩
  have mx : ∀ (C' : Nat → Int32) i, mix M C' (325 + 9 * S + i) = C' (2725 + 9 * S + i) := fun C' i => by rw [mix_hi (by omega), show 2400 + (325 + 9 * S + i) = 2725 + 9 * S + i by omega]
  have mx0 : ∀ (C' : Nat → Int32), mix M C' (325 + 9 * S) = C' (2725 + 9 * S) := fun C' => mx C' 0
  have cw : upd C (2725 + 9 * S) kd (2725 + 9 * S) = kd := upd_s
  rcases hk with ⟨rfl, rfl⟩ | ⟨rfl, rfl⟩ | ⟨rfl, rfl⟩ | ⟨rfl, rfl⟩ | ⟨rfl, rfl⟩ | ⟨rfl, rfl⟩ | ⟨rfl, rfl⟩ | ⟨rfl, rfl⟩
  · refine done (rest_name h2 nm ht hp (by omega) (by omega) (z := true) (.inl ⟨rfl, rfl, rfl⟩) cw) (fun R' C' a b q => ?_)
    obtain ⟨i, hi, q1, q2⟩ := q
    exact .inl ⟨by rw [mx0]; exact b, a, i, by rw [mix_lo (by omega), m5]; exact hi, q1, by rw [mx]; exact q2⟩
  · refine done (rest_aim h2 hp (by omega) (by omega) cw) (fun R' C' a b q => .inr (.inl ⟨by rw [mx0]; exact b, a, by rw [mx]; exact q.1, by rw [mx]; exact q.2⟩))
  · refine done (rest_num h2 hp (by omega) (by omega) (lo := 1) (hi := 40) (.inl ⟨rfl, rfl, rfl, rfl⟩) cw) (fun R' C' a b q => .inr (.inr (.inl ⟨by rw [mx0]; exact b, a, by rw [mx]; exact q.1, by rw [mx]; exact q.2.1, by rw [mx]; exact q.2.2⟩)))
  · refine done (rest_num h2 hp (by omega) (by omega) (lo := 0) (hi := 3) (.inr (.inl ⟨rfl, rfl, rfl, rfl⟩)) cw) (fun R' C' a b q => .inr (.inr (.inr (.inl ⟨by rw [mx0]; exact b, a, by rw [mx]; exact q.1, by rw [mx]; exact q.2.1, by rw [mx]; exact q.2.2⟩))))
  · refine done (rest_name h2 nm ht hp (by omega) (by omega) (z := false) (.inr ⟨rfl, rfl, rfl⟩) cw) (fun R' C' a b q => ?_)
    obtain ⟨i, hi, q1, q2⟩ := q
    exact .inr (.inr (.inr (.inr (.inl ⟨by rw [mx0]; exact b, a, i, by rw [mix_lo (by omega), m6]; exact hi, q1, by rw [mx]; exact q2⟩))))
  · exact done (rest_none h2 (by omega) (.inl ⟨rfl, rfl⟩) cw) (fun R' C' a b _ => .inr (.inr (.inr (.inr (.inr (.inl ⟨by rw [mx0]; exact b, a⟩))))))
  · exact done (rest_none h2 (by omega) (.inr (.inl ⟨rfl, rfl⟩)) cw) (fun R' C' a b _ => .inr (.inr (.inr (.inr (.inr (.inr (.inl ⟨by rw [mx0]; exact b, a⟩)))))))
  · exact done (rest_none h2 (by omega) (.inr (.inr ⟨rfl, rfl⟩)) cw) (fun R' C' a b _ => .inr (.inr (.inr (.inr (.inr (.inr (.inr ⟨by rw [mx0]; exact b, a⟩)))))))
/-- a when, a loop -/
theorem hdr_B (h : GS L u r σ0 τ0 s e A AL RI C W B (nI S) σ τ) (nm : NmOk t P Z σ0 τ0) (ht : t ≠ u) (hM : ∀ j, j < 325 → M j = gI τ0 12 0 5 j) (ri : RI3 RI S p d) (hS : S < 30) (hp : p < 60) (hd : d < 3) {x kd : Int32} (hx : wix τ = x)
    (hk : (x = 23 ∧ kd = 7) ∨ (x = 27 ∧ kd = 8)) (g : Go τ) :
    Fin2 u r σ0 τ0 (HG L u r σ0 τ0 s S p d (d + 1) A AL RI C W B fun R' C' => StepB2 R' (mix M C') (325 + 9 * S) p ∧ R' 6 d = nI p) (cHdr σ r t x p) (mHdr τ S (2725 + 9 * S) kd) := by
  obtain ⟨r1, r2, r3⟩ := ri
  obtain ⟨m5, m6⟩ := steps_n6 nm hM
  have e1 : gI σ 5 r 0 1 = nI S := by rw [h.2.2.1.2.2]; exact r1
  have e2 : gI σ 5 r 0 2 = nI p := by rw [h.2.2.1.2.2]; exact r2
  have e8 : gI σ 5 r 0 8 = nI d := by rw [h.2.2.1.2.2]; exact r3
  have eb : F5_begins σ r x = bd (F8_advance (sI (sI (sI (sI (sI σ 5 r 6 d (nI p)) 5 r 0 8 (nI (d + 1))) 5 r 1 p x) 5 r 0 1 (nI (S + 1))) 5 r 0 2 (nI (p + 1)))) fun _ s => some (true, s) := by
    have st : F5_isStep x = true := by rcases hk with ⟨rfl, -⟩ | ⟨rfl, -⟩ <;> decide
    have p50 : F5_begins_p50 σ r x = bd (F8_advance (sI (sI (sI (sI (sI σ 5 r 6 d (nI p)) 5 r 0 8 (nI (d + 1))) 5 r 1 p x) 5 r 0 1 (nI (S + 1))) 5 r 0 2 (nI (p + 1)))) fun _ s => some (true, s) := by
      have f8 : gI (sI σ 5 r 6 d (nI p)) 5 r 0 8 = nI d := by rw [rI_c (by decide)]; exact e8
      unfold F5_begins_p50 F5_begins_p88
      rw [e8, if_pos (show nI d < (3 : Int32) from nI_lt (b := 3) hd (by omega)), chk_nI (by omega) (by omega), bnd_eq, cl_nI (by omega), e2, bnd_eq, f8, nI_1]
      have f2 : gI (sI (sI σ 5 r 6 d (nI p)) 5 r 0 8 (nI (d + 1))) 5 r 0 2 = nI p := by rw [rI_n (by decide), rI_c (by decide)]; exact e2
      have f1 : gI (sI (sI σ 5 r 6 d (nI p)) 5 r 0 8 (nI (d + 1))) 5 r 0 1 = nI S := by rw [rI_n (by decide), rI_c (by decide)]; exact e1
      rw [f2, chk_nI hp (by omega), bnd_eq, cl_nI (by omega), bnd_eq, bnd_eq, rI_c (by decide), f1, nI_1, rI_n (by decide), rI_c (by decide), f2, nI_1]
    unfold F5_begins
    rw [if_pos st, e1, if_neg (show ¬ (30 : Int32) ≤ nI S from nI_ge (a := S) (b := 30) hS (by omega)), e2, if_pos (show nI p < (60 : Int32) from nI_lt (b := 60) hp (by omega))]
    rcases hk with ⟨rfl, -⟩ | ⟨rfl, -⟩
    · rw [if_pos rfl, p50]
    · rw [if_neg (by decide), if_pos rfl, p50]
  unfold cHdr mHdr
  rw [eb, bnd_eq]
  obtain ⟨σ1, τ1, s1, e1', o1, o2, l1, h1, -⟩ := (((((h.c5 (c := 6) (j := d) (v := nI p)).c5 (c := 0) (j := 8) (v := nI (d + 1))).c5 (c := 1) (j := p) (v := x)).c5 (c := 0) (j := 1) (v := nI (S + 1))).c5 (c := 0) (j := 2) (v := nI (p + 1))).mN (v := nI (S + 1)) |>.nxt (by
    refine ⟨?_, ?_⟩
    · rw [rI_n (by decide)]; exact g.1
    · rw [rI_n (by decide)]; exact g.2)
  rw [o1, o2]
  simp only [bdS, if_true]
  refine k_m5 h1 rfl (by omega) (by omega) (fun τ2 h2 _ => ?_)
  have done : ∀ {Q : VI → (Nat → Int32) → Prop} {X : Option (Bool × Mem)} {Y : Option (Unit × Mem)}, Fin2 u r σ0 τ0 (RG L u r σ0 τ0 s1 p (2725 + 9 * S) A AL (uV (uV (uV (uV (uV RI 6 d (nI p)) 0 8 (nI (d + 1))) 1 p x) 0 1 (nI (S + 1))) 0 2 (nI (p + 1))) (upd C (2725 + 9 * S) kd) W B (nI (S + 1)) Q) X Y →
      (∀ R' C', R' 1 p = x → C' (2725 + 9 * S) = kd → Q R' C' → StepB2 R' (mix M C') (325 + 9 * S) p) → Fin2 u r σ0 τ0 (HG L u r σ0 τ0 s S p d (d + 1) A AL RI C W B fun R' C' => StepB2 R' (mix M C') (325 + 9 * S) p ∧ R' 6 d = nI p) X Y := by
    intro Q X Y hf hq
    obtain ⟨σ', τ', y1, ⟨x1, s', e', R', C', q1, q2, q3, q4, q5⟩ | ⟨x1, b1⟩⟩ := hf
    · refine ⟨σ', τ', y1, .inl ⟨x1, s', e', R', C', by omega, q2, ⟨?_, ?_, ?_⟩, fun x j a b c => ?_, fun j hj => ?_, fun j hj => ?_, hq R' C' ?_ ?_ q5, ?_⟩⟩
      · rw [q3 _ _ (by omega), uV_n (by omega), uV_s]
      · rw [q3 _ _ (by omega), uV_s]
      · rw [q3 _ _ (by omega), uV_n (by omega), uV_n (by omega), uV_n (by omega), uV_s]
      · rw [q3 _ _ (by omega), uV_n (by omega), uV_n (by omega), uV_n (by omega), uV_n (by omega), uV_n (by omega)]
      · rw [q3 _ _ (by omega), uV_n (by omega), uV_n (by omega), uV_n (by omega), uV_n (by omega), uV_n (by omega)]
      · rw [q4 _ (by omega), upd_ne (by omega)]
      · rw [q3 _ _ (by omega), uV_n (by omega), uV_n (by omega), uV_s]
      · rw [q4 _ (by omega), upd_s]
      · rw [q3 _ _ (by omega), uV_n (by omega), uV_n (by omega), uV_n (by omega), uV_n (by omega), uV_s]
    · exact ⟨σ', τ', y1, .inr ⟨x1, b1⟩⟩
  have mx : ∀ (C' : Nat → Int32) i, mix M C' (325 + 9 * S + i) = C' (2725 + 9 * S + i) := fun C' i => by rw [mix_hi (by omega), show 2400 + (325 + 9 * S + i) = 2725 + 9 * S + i by omega]
  have mx0 : ∀ (C' : Nat → Int32), mix M C' (325 + 9 * S) = C' (2725 + 9 * S) := fun C' => mx C' 0
  have cw : upd C (2725 + 9 * S) kd (2725 + 9 * S) = kd := upd_s
  rcases hk with ⟨rfl, rfl⟩ | ⟨rfl, rfl⟩
  · refine done (rest_when h2 nm ht hp (by omega) (by omega) cw) (fun R' C' a b q => ?_)
    obtain ⟨⟨q1, q2, q3⟩, q4⟩ := q
    refine .inl ⟨by rw [mx0]; exact b, a, by rw [mx]; exact q1, by rw [mx]; exact q2, by rw [mx]; exact q3, ?_⟩
    rw [mx, mx, mix_lo (show 6 < 325 by omega), m6]; exact q4
  · exact done (rest_num h2 hp (by omega) (by omega) (lo := 1) (hi := 99) (.inr (.inr ⟨rfl, rfl, rfl, rfl⟩)) cw) (fun R' C' a b q => .inr ⟨by rw [mx0]; exact b, a, by rw [mx]; exact q.1, by rw [mx]; exact q.2.1, by rw [mx]; exact q.2.2⟩)
end RRC
