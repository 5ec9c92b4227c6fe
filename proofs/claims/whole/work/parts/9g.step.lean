/-! PURE. tent, round: both read alike; once it is bad it stays so. -/
section PSF
variable {σ τ σ1 τ1 σ2 τ2 σ0 τ0 : Mem} {L u r s e : Nat}
/-- what the reading of a text may change -/
def PF (u r : Nat) (σ τ σ' τ' : Mem) : Prop :=
  (FC [5, 8, 9] σ σ' ∧ (∀ b, b ≠ u → gI σ' 9 b = gI σ 9 b ∧ gL σ' 9 b = gL σ 9 b) ∧ (∀ b, b ≠ r → gI σ' 5 b = gI σ 5 b ∧ gB σ' 5 b = gB σ 5 b) ∧ gI σ' 8 0 1 = gI σ 8 0 1 ∧ gL σ' 8 0 2 = gL σ 8 0 2 ∧ gI σ' 8 0 0 1 = gI σ 8 0 0 1) ∧
  ((∀ k, k ∉ [12, 13, 14, 15, 16, 17, 18, 27] → gI τ' 12 0 0 k = gI τ 12 0 0 k) ∧ (∀ k, k ≠ 19 → gL τ' 12 0 0 k = gL τ 12 0 0 k) ∧ (∀ k, k ∉ [24, 25, 26] → gB τ' 12 0 0 k = gB τ 12 0 0 k) ∧
   (∀ p, p ≠ 5 → p ≠ 7 → p ≠ 0 → gI τ' 12 0 p = gI τ 12 0 p ∧ gL τ' 12 0 p = gL τ 12 0 p) ∧ (∀ j, j < 2400 → gI τ' 12 0 5 j = gI τ 12 0 5 j) ∧ (∀ j, j < 56 → gL τ' 12 0 7 j = gL τ 12 0 7 j))
theorem PF.z : PF u r σ τ σ τ := ⟨⟨FC.z, fun _ _ => ⟨rfl, rfl⟩, fun _ _ => ⟨rfl, rfl⟩, rfl, rfl, rfl⟩, fun _ _ => rfl, fun _ _ => rfl, fun _ _ => rfl, fun _ _ _ _ => ⟨rfl, rfl⟩, fun _ _ => rfl, fun _ _ => rfl⟩
theorem PF.t (h : PF u r σ τ σ1 τ1) (k : PF u r σ1 τ1 σ2 τ2) : PF u r σ τ σ2 τ2 := by
  obtain ⟨⟨h1, h2, h3, h4, h5, h6⟩, i1, i2, i3, i4, i5, i6⟩ := h
  obtain ⟨⟨k1, k2, k3, k4, k5, k6⟩, l1, l2, l3, l4, l5, l6⟩ := k
  exact ⟨⟨h1.t k1, fun b hb => ⟨(k2 b hb).1.trans (h2 b hb).1, (k2 b hb).2.trans (h2 b hb).2⟩, fun b hb => ⟨(k3 b hb).1.trans (h3 b hb).1, (k3 b hb).2.trans (h3 b hb).2⟩, k4.trans h4, k5.trans h5, k6.trans h6⟩,
    fun k hk => (l1 k hk).trans (i1 k hk), fun k hk => (l2 k hk).trans (i2 k hk), fun k hk => (l3 k hk).trans (i3 k hk), fun p a b c => ⟨(l4 p a b c).1.trans (i4 p a b c).1, (l4 p a b c).2.trans (i4 p a b c).2⟩, fun j hj => (l5 j hj).trans (i5 j hj), fun j hj => (l6 j hj).trans (i6 j hj)⟩
theorem PF.ct (c : CT σ σ1) (m : FM [14, 15, 16, 17, 18] [19] [] τ τ1) : PF u r σ τ σ1 τ1 := by
  obtain ⟨c1, c2, c3, c4⟩ := c
  obtain ⟨m1, m2, m3, m4⟩ := m
  have sub : ∀ j, j ∈ [14, 15, 16, 17, 18] → j ∈ [12, 13, 14, 15, 16, 17, 18, 27] := by decide
  refine ⟨⟨c1.m (by decide), fun b _ => ⟨funext fun k => c1.fI 9 b k (by decide), funext fun k => c1.fL 9 b k (by decide)⟩, fun b _ => ⟨funext fun k => c1.fI 5 b k (by decide), funext fun k => c1.fB 5 b k (by decide)⟩, c3, c4, c2 1 (by decide)⟩,
    fun k hk => m1 k (fun h => hk (sub k h)), fun k hk => m2 k (by simpa using hk), fun k _ => by rw [m3], fun p a b c => m4 p List.not_mem_nil c, fun j _ => by rw [(m4 5 List.not_mem_nil (by decide)).1], fun j _ => by rw [(m4 7 List.not_mem_nil (by decide)).2]⟩
theorem pf_9 {c j : Nat} {v : Int32} : PF u r σ τ (sI σ 9 u c j v) τ :=
  ⟨⟨FC.I (by decide), fun b hb => ⟨by funext k; simp [gI_sI, hb], rfl⟩, fun b _ => ⟨by funext k; exact rI_a (by decide), rfl⟩, rI_a (by decide), rfl, by rw [rI_a (by decide)]⟩, PF.z (u := u) (r := r) (σ := σ) |>.2⟩
theorem pf_9L {c j : Nat} {v : Int64} : PF u r σ τ (sL σ 9 u c j v) τ :=
  ⟨⟨FC.L (by decide), fun b hb => ⟨rfl, by funext k; simp [gL_sL, hb]⟩, fun b _ => ⟨rfl, rfl⟩, rfl, rL_a (by decide), rfl⟩, PF.z (u := u) (r := r) (σ := σ) |>.2⟩
theorem pf_5 {c j : Nat} {v : Int32} : PF u r σ τ (sI σ 5 r c j v) τ :=
  ⟨⟨FC.I (by decide), fun b _ => ⟨by funext k; exact rI_a (by decide), rfl⟩, fun b hb => ⟨by funext k; simp [gI_sI, hb], rfl⟩, rI_a (by decide), rfl, by rw [rI_a (by decide)]⟩, PF.z (u := u) (r := r) (σ := σ) |>.2⟩
theorem pf_8 {j : Nat} {v : Int32} (hj : j ≠ 1) : PF u r σ τ (sI σ 8 0 0 j v) τ :=
  ⟨⟨FC.I (by decide), fun b _ => ⟨by funext k; exact rI_a (by decide), rfl⟩, fun b hb => ⟨by funext k; exact rI_a (by decide), rfl⟩, rI_c (by decide), rfl, rI_n (Ne.symm hj)⟩, PF.z (u := u) (r := r) (σ := σ) |>.2⟩
theorem pf_m {j : Nat} {v : Int32} (hj : j ∈ [12, 13, 14, 15, 16, 17, 18, 27]) : PF u r σ τ σ (sI τ 12 0 0 j v) :=
  ⟨(PF.z (u := u) (r := r) (τ := τ)).1, fun k hk => rI_n (fun h => hk (h ▸ hj)), fun _ _ => rfl, fun _ _ => rfl, fun p _ _ h0 => ⟨rI_c h0, rfl⟩, fun j _ => by rw [rI_c (by decide)], fun _ _ => rfl⟩
theorem pf_m5 {j : Nat} {v : Int32} (hj : 2400 ≤ j) : PF u r σ τ σ (sI τ 12 0 5 j v) :=
  ⟨(PF.z (u := u) (r := r) (τ := τ)).1, fun k _ => by rw [rI_c (by decide)], fun _ _ => rfl, fun _ _ => rfl, fun p h5 _ _ => ⟨rI_c h5, rfl⟩, fun i hi => rI_n (by omega), fun _ _ => rfl⟩
theorem pf_m7 {j : Nat} {v : Int64} (hj : 56 ≤ j) : PF u r σ τ σ (sL τ 12 0 7 j v) :=
  ⟨(PF.z (u := u) (r := r) (τ := τ)).1, fun _ _ => rfl, fun k _ => by rw [rL_c (by decide)], fun _ _ => rfl, fun p _ h7 _ => ⟨rfl, rL_c h7⟩, fun _ _ => rfl, fun i hi => rL_n (by omega)⟩
theorem pf_mB {j : Nat} {v : Bool} (hj : j ∈ [24, 25, 26]) : PF u r σ τ σ (sB τ 12 0 0 j v) :=
  ⟨(PF.z (u := u) (r := r) (τ := τ)).1, fun _ _ => rfl, fun _ _ => rfl, fun k hk => rB_n (fun h => hk (h ▸ hj)), fun _ _ _ _ => ⟨rfl, rfl⟩, fun _ _ => rfl, fun _ _ => rfl⟩
/-- it is bad: the same fault at the same place on both sides -/
def BS (u r : Nat) (σ0 τ0 σ τ : Mem) : Prop := PF u r σ0 τ0 σ τ ∧ 0 < gI τ 12 0 0 12 ∧ gI σ 8 0 0 2 = gI τ 12 0 0 12 ∧ gI σ 8 0 0 3 = gI τ 12 0 0 13
theorem BS.n1 (h : BS u r σ0 τ0 σ τ) : ¬ gI τ 12 0 0 12 ≤ 0 := fun e => by have := i32_lt.mp h.2.1; have := i32_le.mp e; omega
theorem BS.n2 (h : BS u r σ0 τ0 σ τ) : ¬ gI τ 12 0 0 12 = 0 := fun e => by have := h.2.1; rw [e] at this; exact absurd this (by decide)
/-- the model's rest, once it is bad -/
def BR (u r : Nat) (σ0 τ0 σ : Mem) (Y : Option (Unit × Mem)) : Prop := ∃ τ2, Y = some ((), τ2) ∧ BS u r σ0 τ0 σ τ2
theorem b_fin (h : BS u r σ0 τ0 σ τ) : BR u r σ0 τ0 σ (some ((), τ)) := ⟨τ, rfl, h⟩
theorem b_must {z : Bool} {K : Unit → Mem → Option (Unit × Mem)} (h : BS u r σ0 τ0 σ τ) (k : BR u r σ0 τ0 σ (K () τ)) : BR u r σ0 τ0 σ (bd (F12_must τ z) K) := by
  unfold F12_must; rw [if_neg h.n1, bd_some]; exact k
theorem b_must0 {z : Bool} (h : BS u r σ0 τ0 σ τ) : BR u r σ0 τ0 σ (F12_must τ z) := by
  unfold F12_must; rw [if_neg h.n1]; exact b_fin h
theorem b_count {lo hi : Int32} {K : Int32 → Mem → Option (Unit × Mem)} (h : BS u r σ0 τ0 σ τ) (k : BR u r σ0 τ0 σ (K 0 τ)) : BR u r σ0 τ0 σ (bd (F12_count τ lo hi) K) := by
  unfold F12_count; rw [if_neg h.n2]; unfold F12_count_p19; rw [if_neg h.n2]; unfold F12_count_p50; rw [if_neg h.n1, bd_some]; exact k
theorem b_fail {a b : Int32} {K : Unit → Mem → Option (Unit × Mem)} (h : BS u r σ0 τ0 σ τ) (k : BR u r σ0 τ0 σ (K () τ)) : BR u r σ0 τ0 σ (bd (F12_fail τ a b) K) := by
  unfold F12_fail; rw [if_neg h.n1, bd_some]; exact k
theorem b_wrong {K : Unit → Mem → Option (Unit × Mem)} (h : BS u r σ0 τ0 σ τ) (k : BR u r σ0 τ0 σ (K () τ)) : BR u r σ0 τ0 σ (bd (F12_wrong τ) K) := by
  have : F12_wrong τ = some ((), τ) := by
    unfold F12_wrong F12_fail
    simp only [if_neg h.n1, bd_some]
    split <;> rfl
  rw [this, bd_some]; exact k
theorem b_le {A B : Option (Unit × Mem)} (h : BS u r σ0 τ0 σ τ) (k : BR u r σ0 τ0 σ B) : BR u r σ0 τ0 σ (if gI τ 12 0 0 12 ≤ 0 then A else B) := by rw [if_neg h.n1]; exact k
theorem b_eq {A B : Option (Unit × Mem)} (h : BS u r σ0 τ0 σ τ) (k : BR u r σ0 τ0 σ B) : BR u r σ0 τ0 σ (if gI τ 12 0 0 12 = 0 then A else B) := by rw [if_neg h.n2]; exact k
theorem b_lt {A B : Option (Unit × Mem)} (h : BS u r σ0 τ0 σ τ) (k : BR u r σ0 τ0 σ A) : BR u r σ0 τ0 σ (if 0 < gI τ 12 0 0 12 then A else B) := by rw [if_pos h.2.1]; exact k
theorem b_if {c : Prop} [Decidable c] {A B : Option (Unit × Mem)} (k : c → BR u r σ0 τ0 σ A) (l : ¬ c → BR u r σ0 τ0 σ B) : BR u r σ0 τ0 σ (if c then A else B) := by
  by_cases h : c
  · rw [if_pos h]; exact k h
  · rw [if_neg h]; exact l h
theorem BS.m5 (h : BS u r σ0 τ0 σ τ) {j : Nat} {v : Int32} (hj : 2400 ≤ j) : BS u r σ0 τ0 σ (sI τ 12 0 5 j v) := by
  obtain ⟨h1, h2, h3, h4⟩ := h
  exact ⟨h1.t (pf_m5 hj), by rw [rI_c (by decide)]; exact h2, by rw [rI_c (by decide)]; exact h3, by rw [rI_c (by decide)]; exact h4⟩
theorem b_cell {i : Int32} {j : Nat} {v : Int32} {K : Mem → Option (Unit × Mem)} (h : BS u r σ0 τ0 σ τ) (hi : i = nI j) (h1 : 2400 ≤ j) (h2 : j < 3000) (k : ∀ τ', BS u r σ0 τ0 σ τ' → BR u r σ0 τ0 σ (K τ')) :
    BR u r σ0 τ0 σ (chk 3000 i <| bnd (sI τ 12 0 5 (Int32.toNatClampNeg i) v) fun s => K s) := by
  subst hi
  rw [chk_nI h2 (by omega), bnd_eq, cl_nI (by omega)]
  exact k _ (h.m5 h1)
/-- all is well so far: A, AL the class's tent, RI its round, C, W, B, N the model's cells, names, truths, steps -/
def GS (L u r : Nat) (σ0 τ0 : Mem) (s e : Nat) (A : VI) (AL : VL) (RI : VI) (C : Nat → Int32) (W : Nat → Int64) (B : Nat → Bool) (N : Int32) (σ τ : Mem) : Prop :=
  (PF u r σ0 τ0 σ τ ∧ TxR L σ τ ∧ TkR L s e σ τ) ∧ (gI τ 12 0 0 12 = 0 ∧ gI σ 8 0 0 2 = 0 ∧ gI σ 8 0 0 3 = -1) ∧ (gI σ 9 u = A ∧ gL σ 9 u = AL ∧ gI σ 5 r = RI) ∧ gI τ 12 0 5 = C ∧ gL τ 12 0 7 = W ∧ gB τ 12 0 0 = B ∧ gI τ 12 0 0 27 = N
/-- both come to their end: well (then G), or bad alike -/
def Fin2 (u r : Nat) (σ0 τ0 : Mem) (G : Mem → Mem → Prop) (X : Option (Bool × Mem)) (Y : Option (Unit × Mem)) : Prop :=
  ∃ σ' τ', Y = some ((), τ') ∧ ((X = some (true, σ') ∧ G σ' τ') ∨ (X = some (false, σ') ∧ BS u r σ0 τ0 σ' τ'))
theorem BR.fin {G : Mem → Mem → Prop} {Y : Option (Unit × Mem)} (h : BR u r σ0 τ0 σ Y) : Fin2 u r σ0 τ0 G (some (false, σ)) Y := by
  obtain ⟨τ2, h1, h2⟩ := h
  exact ⟨σ, τ2, h1, .inr ⟨rfl, h2⟩⟩
end PSF
section PSG
variable {σ τ σ1 τ1 σ2 τ2 σ0 τ0 : Mem} {L u r s e : Nat} {A RI : VI} {AL : VL} {C : Nat → Int32} {W : Nat → Int64} {B : Nat → Bool} {N : Int32} {G : Mem → Mem → Prop}
/-- at a token behind which there is another -/
abbrev Go (τ : Mem) : Prop := ¬ gI τ 12 0 0 14 = 0 ∧ ¬ gI τ 12 0 0 14 = 4
theorem GS.kind (h : GS L u r σ0 τ0 s e A AL RI C W B N σ τ) : gI σ 8 0 0 4 = gI τ 12 0 0 14 := h.1.2.2.1.1
theorem GS.idx (h : GS L u r σ0 τ0 s e A AL RI C W B N σ τ) : gI σ 8 0 0 5 = wix τ := h.1.2.2.2.1
theorem GS.len (h : GS L u r σ0 τ0 s e A AL RI C W B N σ τ) : s ≤ L ∧ L ≤ 900 ∧ (¬ gI τ 12 0 0 14 = 0 → s < L) := ⟨h.1.2.2.1.2.2.2.1, h.1.2.1.1, h.1.2.2.1.2.2.2.2⟩
theorem GS.end (h : GS L u r σ0 τ0 s e A AL RI C W B N σ τ) (g : Go τ) : s < e ∧ e ≤ L := by
  obtain ⟨a, b, -⟩ := h.1.2.2.2.2.2.2.2 g.1 g.2
  exact ⟨a, b⟩
theorem wix_go {i : Nat} (hi : i < 30) (h : wix τ = nI i) : gI τ 12 0 0 14 = 1 := by
  unfold wix at h
  by_cases k : gI τ 12 0 0 14 = 1
  · exact k
  · rw [if_neg k] at h; exact absurd h (m1_nI (by omega))
theorem go1 (h : gI τ 12 0 0 14 = 1) : Go τ := ⟨by rw [h]; decide, by rw [h]; decide⟩
theorem go2 (h : gI τ 12 0 0 14 = 2) : Go τ := ⟨by rw [h]; decide, by rw [h]; decide⟩
theorem go3 (h : gI τ 12 0 0 14 = 3) : Go τ := ⟨by rw [h]; decide, by rw [h]; decide⟩
/-- the next token -/
theorem GS.nxt (h : GS L u r σ0 τ0 s e A AL RI C W B N σ τ) (g : Go τ) : ∃ σ' τ' s' e', F8_advance σ = some ((), σ') ∧ F12_next τ = some ((), τ') ∧ s < s' ∧ GS L u r σ0 τ0 s' e' A AL RI C W B N σ' τ' ∧ gI σ' 8 0 0 9 = gI σ 8 0 0 9 := by
  obtain ⟨⟨h1, h2, h3⟩, ⟨h4, h5, h6⟩, ⟨h7, h8, h9⟩, h10, h11, h12, h13⟩ := h
  obtain ⟨g1, g2, g3, g4⟩ := h3.2.2.2.2.2 g.1 g.2
  obtain ⟨σ', τ', s', e', o1, o2, o3, o4, o5, o6⟩ := adv h2 g2 g3 g4
  refine ⟨σ', τ', s', e', o1, o2, by omega, ⟨⟨h1.t (PF.ct o5 o6), h2.f o5 o6 (by decide), o4⟩, ⟨?_, ?_, ?_⟩, ⟨?_, ?_, ?_⟩, ?_, ?_, ?_, ?_⟩, o5.2.1 9 (by decide)⟩
  · rw [o6.1 12 (by decide)]; exact h4
  · rw [o5.2.1 2 (by decide)]; exact h5
  · rw [o5.2.1 3 (by decide)]; exact h6
  · rw [← h7]; funext k; exact o5.1.fI 9 u k (by decide)
  · rw [← h8]; funext k; exact o5.1.fL 9 u k (by decide)
  · rw [← h9]; funext k; exact o5.1.fI 5 r k (by decide)
  · rw [(o6.2.2.2 5 List.not_mem_nil (by decide)).1]; exact h10
  · rw [(o6.2.2.2 7 List.not_mem_nil (by decide)).2]; exact h11
  · rw [o6.2.2.1]; exact h12
  · rw [o6.1 27 (by decide)]; exact h13
/-- a fault is found here: k, but 1 where there is no token -/
theorem GS.bad (h : GS L u r σ0 τ0 s e A AL RI C W B N σ τ) {k : Int32} (hk : 0 < k) (hg : ¬ gI τ 12 0 0 14 = 4) : ∃ σ', F8_refuseHere σ k = some (false, σ') ∧ ∃ τ', F12_fail τ k (gI τ 12 0 0 15) = some ((), τ') ∧ BS u r σ0 τ0 σ' τ' := by
  obtain ⟨⟨h1, h2, h3⟩, ⟨h4, h5, h6⟩, -⟩ := h
  unfold F8_refuseHere F12_fail
  rw [h3.1.1, if_neg hg, h4, if_pos (show (0 : Int32) ≤ 0 by decide), bnd_eq, bnd_eq, bnd_eq, bnd_eq]
  have e12 : gI (sI σ 8 0 0 2 k) 8 0 0 12 = gI τ 12 0 0 15 := by rw [rI_n (by decide), h3.1.2.1, h3.1.2.2.1]
  refine ⟨_, rfl, _, rfl, h1.t (((pf_8 (by decide)).t (pf_8 (by decide))).t ((pf_m (by decide)).t (pf_m (by decide)))), ?_, ?_, ?_⟩
  · rw [rI_n (by decide), rI_s]; exact hk
  · rw [rI_n (by decide), rI_s, rI_n (by decide), rI_s]
  · rw [rI_s, rI_s]; exact e12
theorem GS.wrong (h : GS L u r σ0 τ0 s e A AL RI C W B N σ τ) : ∃ σ', F8_refuseHere σ 2 = some (false, σ') ∧ ∃ τ', F12_wrong τ = some ((), τ') ∧ BS u r σ0 τ0 σ' τ' := by
  by_cases hg : gI τ 12 0 0 14 = 4
  · obtain ⟨⟨h1, h2, h3⟩, ⟨h4, h5, h6⟩, -⟩ := h
    unfold F8_refuseHere F12_wrong F12_fail
    rw [h3.1.1, if_pos hg, if_pos hg, h4, if_pos (show (0 : Int32) ≤ 0 by decide)]
    simp only [bnd_eq, bd_some]
    have e12 : gI (sI σ 8 0 0 2 1) 8 0 0 12 = gI τ 12 0 0 15 := by rw [rI_n (by decide), h3.1.2.1, h3.1.2.2.1]
    refine ⟨_, rfl, _, rfl, h1.t (((pf_8 (by decide)).t (pf_8 (by decide))).t ((pf_m (by decide)).t (pf_m (by decide)))), ?_, ?_, ?_⟩
    · rw [rI_n (by decide), rI_s]; decide
    · rw [rI_n (by decide), rI_s, rI_n (by decide), rI_s]
    · rw [rI_s, rI_s]; exact e12
  · obtain ⟨σ', o1, τ', o2, o3⟩ := h.bad (k := 2) (by decide) hg
    unfold F12_wrong
    rw [if_neg hg, o2, bd_some]
    exact ⟨σ', o1, τ', rfl, o3⟩
/-- a number is written down as taken -/
theorem GS.w9 (h : GS L u r σ0 τ0 s e A AL RI C W B N σ τ) {v : Int32} : GS L u r σ0 τ0 s e A AL RI C W B N (sI σ 8 0 0 9 v) τ := by
  obtain ⟨⟨h1, ⟨t1, t2, t3, t4, t5⟩, ⟨⟨k1, k2, k3, k4⟩, k5, k6, k7, k8, k9⟩⟩, ⟨h4, h5, h6⟩, ⟨h7, h8, h9⟩, h10⟩ := h
  have z : ∀ j, j ≠ 9 → gI (sI σ 8 0 0 9 v) 8 0 0 j = gI σ 8 0 0 j := fun j hj => rI_n hj
  refine ⟨⟨h1.t (pf_8 (by decide)), ⟨t1, by rw [z 10 (by decide)]; exact t2, t3, by rw [rI_c (by decide)]; exact t4, t5⟩, ⟨⟨by rw [z 4 (by decide)]; exact k1, by rw [z 12 (by decide)]; exact k2, k3, k4⟩, by rw [z 5 (by decide)]; exact k5, by rw [z 8 (by decide)]; exact k6, by rw [z 7 (by decide)]; exact k7, k8, by rw [z 11 (by decide)]; exact k9⟩⟩,
    ⟨h4, by rw [z 2 (by decide)]; exact h5, by rw [z 3 (by decide)]; exact h6⟩, ⟨?_, h8, ?_⟩, h10⟩
  · rw [← h7]; funext k; exact rI_a (by decide)
  · rw [← h9]; funext k; exact rI_a (by decide)
/-- a number -/
theorem k_num (h : GS L u r σ0 τ0 s e A AL RI C W B N σ τ) {lo hi : Int32} {K : Mem → Option (Bool × Mem)} {K' : Int32 → Mem → Option (Unit × Mem)}
    (ok : ∀ v σ' τ' s' e', lo ≤ v → v ≤ hi → s < s' → gI σ' 8 0 0 9 = v → GS L u r σ0 τ0 s' e' A AL RI C W B N σ' τ' → Fin2 u r σ0 τ0 G (K σ') (K' v τ'))
    (no : ∀ σ' τ', BS u r σ0 τ0 σ' τ' → BR u r σ0 τ0 σ' (K' 0 τ')) :
    Fin2 u r σ0 τ0 G (bd (F8_takeNumber σ lo hi) fun v s => if v = true then K s else some (false, s)) (bd (F12_count τ lo hi) K') := by
  have hb := h.2.1.1
  have b1 : gI τ 12 0 0 12 ≤ 0 := by rw [hb]; decide
  unfold F8_takeNumber F12_count
  rw [h.kind, if_pos hb]
  by_cases k2 : gI τ 12 0 0 14 = 2
  · have en : gI σ 8 0 0 7 = gI τ 12 0 0 17 := h.1.2.2.2.2.2.1 k2
    rw [if_pos k2, if_pos k2, en]
    unfold F12_count_p19
    rw [if_pos hb, isIn_within]
    by_cases kr : F11_within (gI τ 12 0 0 17) lo hi = true
    · obtain ⟨r1, r2⟩ := within_iff.mp kr
      have r0 : ¬ gI τ 12 0 0 17 < lo := fun e => by have := i32_lt.mp e; have := i32_le.mp r1; omega
      rw [if_pos kr, if_neg r0, if_pos r2]
      unfold F12_count_p50
      rw [if_pos b1, bnd_eq, bnd_eq]
      obtain ⟨σ', τ', s', e', o1, o2, o3, o4, o5⟩ := (h.w9 (v := gI τ 12 0 0 17)).nxt (go2 k2)
      rw [o1, o2, bd_some, bd_some, bd_some, bd_some, if_pos rfl]
      exact ok _ σ' τ' s' e' r1 r2 o3 (by rw [o5, rI_s]) o4
    · obtain ⟨σ', o1, τ', o2, o3⟩ := h.bad (k := 4) (by decide) (by rw [k2]; decide)
      have rr : (if gI τ 12 0 0 17 < lo then (bd (F8_refuseHere σ 4) fun v_1 s_2 => some (v_1, s_2)) else (if gI τ 12 0 0 17 ≤ hi then (bnd (sI σ 8 0 0 9 (gI τ 12 0 0 17)) fun s_3 => bd (F8_advance s_3) fun _ s_4 => some (true, s_4)) else (bd (F8_refuseHere σ 4) fun v_5 s_6 => some (v_5, s_6)))) = some (false, σ') := by
        by_cases r0 : gI τ 12 0 0 17 < lo
        · rw [if_pos r0, o1, bd_some]
        · have r1 : ¬ gI τ 12 0 0 17 ≤ hi := fun e => kr (within_iff.mpr ⟨i32_le.mpr (by have := mt i32_lt.mpr r0; omega), e⟩)
          rw [if_neg r0, if_neg r1, o1, bd_some]
      rw [rr, if_neg kr, o2, bd_some, bd_some, if_neg (by decide)]
      unfold F12_count_p50
      rw [if_neg o3.n1, bd_some]
      exact (no σ' τ' o3).fin
  · obtain ⟨σ', o1, τ', o2, o3⟩ := h.wrong
    rw [if_neg k2, if_neg k2, o1, o2, bd_some, bd_some, bd_some, if_neg (by decide)]
    unfold F12_count_p19 F12_count_p50
    rw [if_neg o3.n2, if_neg o3.n1, bd_some]
    exact (no σ' τ' o3).fin
/-- a word that must be here -/
theorem k_word (h : GS L u r σ0 τ0 s e A AL RI C W B N σ τ) (i : Nat) (hi : i < 30) {x : Int32} (hx : x = nI i) {z : Bool} (hz : (z = true) = (wix τ = nI i)) {K : Mem → Option (Bool × Mem)} {K' : Unit → Mem → Option (Unit × Mem)}
    (ok : ∀ σ' τ' s' e', s < s' → gI σ' 8 0 0 9 = gI σ 8 0 0 9 → GS L u r σ0 τ0 s' e' A AL RI C W B N σ' τ' → Fin2 u r σ0 τ0 G (K σ') (K' () τ'))
    (no : ∀ σ' τ', BS u r σ0 τ0 σ' τ' → BR u r σ0 τ0 σ' (K' () τ')) :
    Fin2 u r σ0 τ0 G (bd (F8_takeWord σ x) fun v s => if v = true then K s else some (false, s)) (bd (F12_must τ z) K') := by
  subst hx
  have b1 : gI τ 12 0 0 12 ≤ 0 := by rw [h.2.1.1]; decide
  unfold F8_takeWord F8_skipWord F12_must
  rw [if_pos b1, h.idx]
  by_cases k : wix τ = nI i
  · obtain ⟨σ', τ', s', e', o1, o2, o3, o4, o5⟩ := h.nxt (go1 (wix_go hi k))
    rw [if_pos k, if_pos (hz.mpr k), o1, o2]
    simp only [bd_some, if_true]
    exact ok σ' τ' s' e' o3 o5 o4
  · obtain ⟨σ', o1, τ', o2, o3⟩ := h.wrong
    rw [if_neg k, if_neg (fun e => k (hz.mp e)), o2]
    simp only [bd_some, Bool.false_eq_true, if_false, o1]
    exact (no σ' τ' o3).fin
/-- a sign -/
theorem GS.sign (h : GS L u r σ0 τ0 s e A AL RI C W B N σ τ) {v : Int32} (hv : ¬ v = -1) : (F12_isSign τ v = true) ↔ gI σ 8 0 0 8 = v := by
  unfold F12_isSign
  rw [h.1.2.2.2.2.1]
  by_cases k : gI τ 12 0 0 14 = 3
  · rw [if_pos k, if_pos k]
    constructor
    · intro e
      by_cases q : gI τ 12 0 0 17 = v
      · exact q
      · rw [if_neg q] at e; exact absurd e (by decide)
    · intro e; rw [if_pos e]
  · rw [if_neg k, if_neg k]
    constructor
    · intro e; exact absurd e (by decide)
    · intro e; exact absurd e.symm hv
theorem sign_go {v : Int32} (h : F12_isSign τ v = true) : gI τ 12 0 0 14 = 3 := by
  unfold F12_isSign at h
  by_cases k : gI τ 12 0 0 14 = 3
  · exact k
  · rw [if_neg k] at h; exact absurd h (by decide)
theorem k_semi (h : GS L u r σ0 τ0 s e A AL RI C W B N σ τ) (ok : ∀ σ' τ' s' e', s < s' → GS L u r σ0 τ0 s' e' A AL RI C W B N σ' τ' → G σ' τ') :
    Fin2 u r σ0 τ0 G (F8_takeSemicolon σ) (F12_must τ (F12_isSign τ 59)) := by
  have b1 : gI τ 12 0 0 12 ≤ 0 := by rw [h.2.1.1]; decide
  have hs := h.sign (v := 59) (by decide)
  unfold F8_takeSemicolon F12_must
  rw [if_pos b1]
  by_cases k : gI σ 8 0 0 8 = 59
  · have k' := hs.mpr k
    obtain ⟨σ', τ', s', e', o1, o2, o3, o4, o5⟩ := h.nxt (go3 (sign_go k'))
    rw [if_pos k, if_pos k', o1, o2, bd_some, bd_some]
    exact ⟨σ', τ', rfl, .inl ⟨rfl, ok σ' τ' s' e' o3 o4⟩⟩
  · obtain ⟨σ', o1, τ', o2, o3⟩ := h.wrong
    rw [if_neg k, if_neg (fun e => k (hs.mp e)), o1, o2, bd_some, bd_some]
    exact ⟨σ', τ', rfl, .inr ⟨rfl, o3⟩⟩
/-- a word that may be here -/
theorem k_skip (h : GS L u r σ0 τ0 s e A AL RI C W B N σ τ) (i : Nat) (hi : i < 30) {x : Int32} (hx : x = nI i) {K : Bool → Mem → Option (Bool × Mem)} {Y : Option (Unit × Mem)}
    (yes : wix τ = nI i → ∀ σ' τ' s' e', F12_next τ = some ((), τ') → s < s' → gI σ' 8 0 0 9 = gI σ 8 0 0 9 → GS L u r σ0 τ0 s' e' A AL RI C W B N σ' τ' → Fin2 u r σ0 τ0 G (K true σ') Y)
    (no : ¬ wix τ = nI i → Fin2 u r σ0 τ0 G (K false σ) Y) : Fin2 u r σ0 τ0 G (bd (F8_skipWord σ x) K) Y := by
  subst hx
  unfold F8_skipWord
  rw [h.idx]
  by_cases k : wix τ = nI i
  · obtain ⟨σ', τ', s', e', o1, o2, o3, o4, o5⟩ := h.nxt (go1 (wix_go hi k))
    rw [if_pos k, o1, bd_some, bd_some]
    exact yes k σ' τ' s' e' o2 o3 o5 o4
  · rw [if_neg k, bd_some]; exact no k
/-- names -/
theorem GS.name (h : GS L u r σ0 τ0 s e A AL RI C W B N σ τ) : F8_atName σ = F12_isName τ ∧ (F12_isName τ = true → gI τ 12 0 0 14 = 1 ∧ gL σ 8 0 0 6 = gL τ 12 0 0 19) := by
  unfold F8_atName F12_isName
  rw [h.kind, h.idx, m_isKept]
  by_cases k : gI τ 12 0 0 14 = 1
  · obtain ⟨n1, n2⟩ := h.1.2.2.2.2.2.2.1 k
    rw [if_pos k, if_pos k]
    by_cases k8 : 8 < gI τ 12 0 0 18
    · rw [if_pos k8, n1 k8]
      refine ⟨?_, fun e => absurd e (by decide)⟩
      by_cases q : wix τ = -1
      · rw [if_pos q, if_pos rfl]
      · rw [if_neg q]
    · obtain ⟨n3, n4⟩ := n2 k8
      rw [if_neg k8, n3]
      rcases wix_is (τ := τ) with q | ⟨i, hi, q⟩
      · rw [q, keW_m, if_pos rfl, if_neg n4, if_neg (by decide)]
        exact ⟨rfl, fun _ => ⟨k, rfl⟩⟩
      · rw [q, show keW (nI i) = true from keW_i ⟨i, hi⟩, if_pos rfl, if_neg (fun e => m1_nI (by omega) e.symm)]
        exact ⟨rfl, fun e => absurd e (by decide)⟩
  · rw [if_neg k, if_neg k]
    exact ⟨rfl, fun e => absurd e (by decide)⟩
end PSG
