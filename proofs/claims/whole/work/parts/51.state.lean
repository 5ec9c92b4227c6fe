/-! PURE. What is alike in the two heaps. -/
abbrev cM (σ : Mem) (j : Nat) : Int32 := gI σ 12 0 5 j
abbrev wM (σ : Mem) (j : Nat) : Int64 := gL σ 12 0 7 j
abbrev nat (x : Int32) : Nat := x.toNatClampNeg
theorem nat_i (x : Int32) : (nat x : Int) = max x.toInt 0 := i32_clamp
/-- the model's block at o, its names at ow; beyond it nothing -/
def blkM (σ : Mem) (o : Nat) : Nat → Int32 := fun j => if j < 600 then cM σ (o + j) else 0
def blkW (σ : Mem) (o : Nat) : Nat → Int64 := fun j => if j < 14 then wM σ (o + j) else 0
abbrev VI : Type := Nat → Nat → Int32
abbrev VL : Type := Nat → Nat → Int64
abbrev VB : Type := Nat → Nat → Bool
abbrev TYV : Type := Int32 × Int32 × (Nat → Int32) × (Nat → Int32) × (Nat → Int32) × (Nat → Int32) × (Nat → Int32)
/-- what can be told of a tent, in the model's block c -/
def TentOk (c : Nat → Int32) : Prop :=
  (12 ≤ c 0 ∧ c 0 ≤ 48) ∧ (3 ≤ c 1 ∧ c 1 ≤ 12) ∧ (4 ≤ c 2 ∧ c 2 ≤ 20) ∧ (-9 ≤ c 3 ∧ c 3 ≤ 9) ∧
  (0 ≤ c 4 ∧ c 4 ≤ 6) ∧ (0 ≤ c 5 ∧ c 5 ≤ 8) ∧ (0 ≤ c 6 ∧ c 6 ≤ 6) ∧
  (∀ k, k < nat (c 4) → (1 ≤ c (9 + k) ∧ c (9 + k) ≤ 60) ∧ (1 ≤ c (15 + k) ∧ c (15 + k) ≤ 20)) ∧
  (∀ k, k + 1 < nat (c 4) → c (9 + (k + 1)) < c (9 + k) ∧ c (15 + k) < c (15 + (k + 1))) ∧
  (∀ k, k < nat (c 5) → (1 ≤ c (21 + k) ∧ c (21 + k) ≤ 12) ∧ (1 ≤ c (29 + k) ∧ c (29 + k) ≤ 20) ∧ (0 ≤ c (37 + k) ∧ c (37 + k) ≤ 4) ∧ (c (45 + k) = 0 ∨ c (45 + k) = 1)) ∧
  (∀ k, k < nat (c 6) → (1 ≤ c (53 + k) ∧ c (53 + k) ≤ 40) ∧ (0 ≤ c (59 + k) ∧ c (59 + k) ≤ 6) ∧ (0 ≤ c (65 + k) ∧ c (65 + k) ≤ 9) ∧ (-9 ≤ c (71 + k) ∧ c (71 + k) ≤ 9))
/-- the class's tent (ti, tl) is the model's block c, w its names -/
def TentR (ti : VI) (tl : VL) (c : Nat → Int32) (w : Nat → Int64) : Prop :=
  ti 0 0 = c 0 ∧ ti 0 1 = c 1 ∧ ti 0 2 = c 2 ∧ ti 0 3 = c 3 ∧ ti 0 4 = c 4 ∧ ti 0 7 = c 5 ∧ ti 0 13 = c 6 ∧
  (∀ k, k < nat (c 4) → ti 1 k = c (9 + k) ∧ ti 2 k = c (15 + k)) ∧
  (∀ k, k < nat (c 5) → tl 3 k = w k ∧ ti 4 k = c (21 + k) ∧ ti 5 k = c (29 + k) ∧ ti 6 k = c (37 + k) ∧ ti 7 k = c (45 + k)) ∧
  (∀ k, k < nat (c 6) → tl 8 k = w (8 + k) ∧ ti 9 k = c (53 + k) ∧ ti 10 k = c (59 + k) ∧ ti 11 k = c (65 + k) ∧ ti 12 k = c (71 + k))
/-- spit, holes, scores -/
def TallyR (y : TYV) (c : Nat → Int32) : Prop :=
  (y.1 = c 7 ∧ y.2.1 = c 8) ∧ ((0 ≤ c 7 ∧ c 7 ≤ 20) ∧ (0 ≤ c 8 ∧ c 8 ≤ 60)) ∧
  (∀ k, k < 6 → y.2.2.2.2.2.2 k = c (77 + k)) ∧
  (∀ k, k < nat (c 8) → (y.2.2.1 k = c (83 + 4 * k) ∧ y.2.2.2.1 k = c (84 + 4 * k) ∧ y.2.2.2.2.1 k = c (85 + 4 * k) ∧ y.2.2.2.2.2.1 k = c (86 + 4 * k)) ∧
    (-99 ≤ c (83 + 4 * k) ∧ c (83 + 4 * k) ≤ 99) ∧ (-99 ≤ c (84 + 4 * k) ∧ c (84 + 4 * k) ≤ 99))
/-- a step that is no when and no loop: w its cells in the model, p its place in the class's row -/
def StepS (ri : VI) (c : Nat → Int32) (w p : Nat) : Prop :=
  (c w = 0 ∧ ri 1 p = 17 ∧ ∃ i, i < nat (c 5) ∧ ri 2 p = nI i ∧ c (w + 1) = nI i) ∨
  (c w = 1 ∧ ri 1 p = 18 ∧ ri 2 p = c (w + 1) ∧ ri 3 p = c (w + 2)) ∨
  (c w = 2 ∧ ri 1 p = 13 ∧ ri 2 p = c (w + 1) ∧ 1 ≤ c (w + 1) ∧ c (w + 1) ≤ 40) ∨
  (c w = 3 ∧ ri 1 p = 19 ∧ ri 2 p = c (w + 1) ∧ 0 ≤ c (w + 1) ∧ c (w + 1) ≤ 3) ∨
  (c w = 4 ∧ ri 1 p = 20 ∧ ∃ i, i < nat (c 6) ∧ ri 2 p = nI i ∧ c (w + 1) = nI i) ∨
  (c w = 5 ∧ ri 1 p = 21) ∨ (c w = 6 ∧ ri 1 p = 22) ∨ (c w = 9 ∧ ri 1 p = 29)
/-- a when or a loop, its end at place q of the class's row -/
def StepB (ri : VI) (c : Nat → Int32) (w p q : Nat) : Prop :=
  (ri 1 q = 28 ∧ ri 5 q = nI p ∧ ri 5 p = nI q) ∧
  ((c w = 7 ∧ ri 1 p = 23 ∧ ri 3 p = c (w + 7) ∧ ri 4 p = c (w + 2) ∧ (c (w + 7) = 60 ∨ c (w + 7) = 61 ∨ c (w + 7) = 62) ∧
    ((c (w + 6) = 0 ∧ ∃ i, i < nat (c 6) ∧ ri 2 p = nI i ∧ c (w + 1) = nI i) ∨ (c (w + 6) = 1 ∧ ri 2 p = -1) ∨ (c (w + 6) = 2 ∧ ri 2 p = -2))) ∨
   (c w = 8 ∧ ri 1 p = 27 ∧ ri 2 p = c (w + 1) ∧ 1 ≤ c (w + 1) ∧ c (w + 1) ≤ 99))
/-- the model's steps from s up to e are the class's places from p up to q, d levels deep at most; n: how many steps there may be -/
def Seg (ri : VI) (c : Nat → Int32) : Nat → Nat → Nat → Nat → Nat → Nat → Prop
  | 0 => fun _ s e p q => s = e ∧ p = q
  | n + 1 => fun d s e p q => (s = e ∧ p = q) ∨ (s < e ∧
      ((StepS ri c (325 + 9 * s) p ∧ c (325 + 9 * s + 8) = nI (s + 1) ∧ Seg ri c n d (s + 1) e (p + 1) q) ∨
       (∃ e1 q1 d1, d = d1 + 1 ∧ s < e1 ∧ e1 ≤ e ∧ c (325 + 9 * s + 8) = nI e1 ∧ StepB ri c (325 + 9 * s) p q1 ∧
          Seg ri c n d1 (s + 1) e1 (p + 1) q1 ∧ Seg ri c n d e1 e (q1 + 1) q)))
def RoundR (ri : VI) (rb : VB) (c : Nat → Int32) : Prop :=
  (rb 0 0 = false ∧ c 323 = 0) ∨
  (rb 0 0 = true ∧ c 323 = 1 ∧ ∃ N P : Nat, N ≤ 30 ∧ P ≤ 60 ∧ ri 0 1 = nI N ∧ c 324 = nI N ∧ ri 0 2 = nI P ∧ Seg ri c 31 3 0 N 0 P)
def BlockV (ti : VI) (tl : VL) (y : TYV) (ri : VI) (rb : VB) (c : Nat → Int32) (w : Nat → Int64) : Prop := TentOk c ∧ TentR ti tl c w ∧ TallyR y c ∧ RoundR ri rb c
abbrev TY (σ : Mem) (b : Nat) : TYV := (gI σ 7 b 0 0, gI σ 7 b 0 1, gI σ 7 b 1, gI σ 7 b 2, gI σ 7 b 3, gI σ 7 b 4, gI σ 7 b 5)
def BlockR (σC σM : Mem) (t y r o ow : Nat) : Prop := BlockV (gI σC 9 t) (gL σC 9 t) (TY σC y) (gI σC 5 r) (gB σC 5 r) (blkM σM o) (blkW σM ow)
def TraysR (σC σM : Mem) : Prop := ∀ t, t < 4 →
  (gB σC 10 t 0 0 = false ∧ gI σM 12 0 2 t = -1) ∨
  (gB σC 10 t 0 0 = true ∧ gI σC 10 t 0 1 = gI σM 12 0 1 t ∧ gI σC 10 t 0 2 = gI σM 12 0 2 t ∧ 0 ≤ gI σM 12 0 2 t ∧ gI σM 12 0 2 t ≤ 60 ∧ (∀ k, k < nat (gI σM 12 0 2 t) → gL σC 10 t 1 k = gL σM 12 0 3 (60 * t + k)))
/-- the words that no name may be, as the class's tape holds them -/
def wordsN : List Int64 := [676933, 81477, 6194, 763332, 398548, 599495, 24627848, 16545, 632645, 777297172, 3841436836, 23732, 20685770930, 545990, 20186469, 398382, 12791, 408612, 1325, 70708, 20200948, 763397, 464660, 762030, 20037189, 8892595, 639284, 409072, 5572, 643568]
def TapeR (σC σM : Mem) : Prop :=
  gI σC 8 0 0 1 = gI σM 12 0 0 8 ∧ 0 ≤ gI σM 12 0 0 8 ∧ gI σM 12 0 0 8 ≤ 900 ∧ gI σC 8 0 0 2 = gI σM 12 0 0 10 ∧ gI σC 8 0 0 3 = gI σM 12 0 0 11 ∧
  (∀ k, k < nat (gI σM 12 0 0 8) → gI σC 8 0 1 k = gI σM 12 0 4 k ∧ -128 ≤ (gI σM 12 0 4 k).toInt ∧ (gI σM 12 0 4 k).toInt ≤ 127)
/-- all that the two heaps keep from call to call, but for status and fraction -/
def RelP (σC σM : Mem) : Prop :=
  TraysR σC σM ∧ (TapeR σC σM ∧ ∀ k, k < 30 → gL σC 8 0 2 k = wordsN.getD k 0) ∧
  ((gR σC 11 0 0 5 < 2 ∧ gR σC 11 0 0 6 = 1 - gR σC 11 0 0 5) ∧ (gR σC 11 0 0 7 < 2 ∧ gR σC 11 0 0 8 = 1 - gR σC 11 0 0 7)) ∧
  BlockR σC σM (gR σC 11 0 0 5) 0 (gR σC 11 0 0 7) 0 0 ∧
  (gI σC 11 0 0 12 = gI σM 12 0 0 23 ∧ 0 ≤ gI σM 12 0 0 23 ∧ gI σM 12 0 0 23 ≤ 3 ∧ ∀ i, i < nat (gI σM 12 0 0 23) → BlockR σC σM (2 + i) (2 + i) (2 + i) (600 * (i + 1)) (14 * (i + 1))) ∧
  (gB σC 4 0 0 0 = gB σM 12 0 0 47 ∧ (gB σM 12 0 0 47 = true → gI σC 4 0 0 2 = gI σM 12 0 12 0 ∧ gI σC 4 0 0 3 = gI σM 12 0 12 1 ∧ gI σC 4 0 0 4 = gI σM 12 0 12 2 ∧ gI σC 4 0 0 5 = gI σM 12 0 12 3 ∧ gI σC 4 0 0 6 = gI σM 12 0 12 4))
def Rel (σC σM : Mem) : Prop := RelP σC σM ∧ gI σC 11 0 0 0 = gI σM 12 0 0 0 ∧ gL σC 11 0 0 1 = gL σM 12 0 0 2 ∧ gL σC 11 0 0 2 = gL σM 12 0 0 3
/-- one call on each side: they answer alike and are alike again -/
def Stq {α : Type} (EC EM : Option (α × Mem)) : Prop := ∃ (r : α) (σC' σM' : Mem), EC = some (r, σC') ∧ EM = some (r, σM') ∧ Rel σC' σM'
/-- what is kept of the class's heap, of the model's -/
def PC (σ : Mem) := (σ.1 10, σ.2.1 10, σ.2.2.1 10, σ.1 9, σ.2.1 9, σ.1 5, σ.2.2.1 5, σ.2.2.2 11, (gI σ 8 0 0 1, gI σ 8 0 0 2, gI σ 8 0 0 3, gI σ 8 0 1, gL σ 8 0 2), TY σ 0, (fun i : Nat => TY σ (2 + i)), gI σ 11 0 0 12, (gB σ 4 0 0 0, gI σ 4 0 0 2, gI σ 4 0 0 3, gI σ 4 0 0 4, gI σ 4 0 0 5, gI σ 4 0 0 6))
def PM (σ : Mem) := (gI σ 12 0 1, gI σ 12 0 2, gL σ 12 0 3, gI σ 12 0 4, (gI σ 12 0 0 8, gI σ 12 0 0 10, gI σ 12 0 0 11, gI σ 12 0 0 23), (fun b : Nat => if b < 4 then (blkM σ (600 * b), blkW σ (14 * b)) else (fun _ => 0, fun _ => 0)), gI σ 12 0 12, gB σ 12 0 0 47)
theorem PC_inj {σ σ' : Mem} (h : PC σ' = PC σ) : (gI σ' 10 = gI σ 10 ∧ gL σ' 10 = gL σ 10 ∧ gB σ' 10 = gB σ 10) ∧ (gI σ' 9 = gI σ 9 ∧ gL σ' 9 = gL σ 9) ∧ (gI σ' 5 = gI σ 5 ∧ gB σ' 5 = gB σ 5) ∧ gR σ' 11 = gR σ 11 ∧ (gI σ' 8 0 0 1 = gI σ 8 0 0 1 ∧ gI σ' 8 0 0 2 = gI σ 8 0 0 2 ∧ gI σ' 8 0 0 3 = gI σ 8 0 0 3 ∧ gI σ' 8 0 1 = gI σ 8 0 1 ∧ gL σ' 8 0 2 = gL σ 8 0 2) ∧ TY σ' 0 = TY σ 0 ∧ (∀ i, TY σ' (2 + i) = TY σ (2 + i)) ∧ gI σ' 11 0 0 12 = gI σ 11 0 0 12 ∧ (gB σ' 4 0 0 0 = gB σ 4 0 0 0 ∧ gI σ' 4 0 0 2 = gI σ 4 0 0 2 ∧ gI σ' 4 0 0 3 = gI σ 4 0 0 3 ∧ gI σ' 4 0 0 4 = gI σ 4 0 0 4 ∧ gI σ' 4 0 0 5 = gI σ 4 0 0 5 ∧ gI σ' 4 0 0 6 = gI σ 4 0 0 6) := by
  unfold PC at h
  obtain ⟨h1, h⟩ := Prod.mk.inj h
  obtain ⟨h2, h⟩ := Prod.mk.inj h
  obtain ⟨h3, h⟩ := Prod.mk.inj h
  obtain ⟨h4, h⟩ := Prod.mk.inj h
  obtain ⟨h5, h⟩ := Prod.mk.inj h
  obtain ⟨h6, h⟩ := Prod.mk.inj h
  obtain ⟨h7, h⟩ := Prod.mk.inj h
  obtain ⟨h8, h⟩ := Prod.mk.inj h
  obtain ⟨h9, h⟩ := Prod.mk.inj h
  obtain ⟨h10, h⟩ := Prod.mk.inj h
  obtain ⟨h11, h⟩ := Prod.mk.inj h
  obtain ⟨h12, h⟩ := Prod.mk.inj h
  refine ⟨⟨h1, h2, h3⟩, ⟨h4, h5⟩, ⟨h6, h7⟩, h8, by simpa using h9, h10, fun i => congrFun h11 i, h12, by simpa using h⟩
theorem PM_inj {σ σ' : Mem} (h : PM σ' = PM σ) : (gI σ' 12 0 1 = gI σ 12 0 1 ∧ gI σ' 12 0 2 = gI σ 12 0 2 ∧ gL σ' 12 0 3 = gL σ 12 0 3) ∧ gI σ' 12 0 4 = gI σ 12 0 4 ∧ (gI σ' 12 0 0 8 = gI σ 12 0 0 8 ∧ gI σ' 12 0 0 10 = gI σ 12 0 0 10 ∧ gI σ' 12 0 0 11 = gI σ 12 0 0 11 ∧ gI σ' 12 0 0 23 = gI σ 12 0 0 23) ∧ (∀ b, b < 4 → blkM σ' (600 * b) = blkM σ (600 * b) ∧ blkW σ' (14 * b) = blkW σ (14 * b)) ∧ gI σ' 12 0 12 = gI σ 12 0 12 ∧ gB σ' 12 0 0 47 = gB σ 12 0 0 47 := by
  unfold PM at h
  obtain ⟨h1, h⟩ := Prod.mk.inj h
  obtain ⟨h2, h⟩ := Prod.mk.inj h
  obtain ⟨h3, h⟩ := Prod.mk.inj h
  obtain ⟨h4, h⟩ := Prod.mk.inj h
  obtain ⟨h5, h⟩ := Prod.mk.inj h
  obtain ⟨h6, h⟩ := Prod.mk.inj h
  obtain ⟨h7, h8⟩ := Prod.mk.inj h
  refine ⟨⟨h1, h2, h3⟩, h4, by simpa using h5, fun b hb => ?_, h7, h8⟩
  have := congrFun h6 b
  simpa [hb] using this
theorem RelP.congr {σC σM σC' σM' : Mem} (h : RelP σC σM) (hc : PC σC' = PC σC) (hm : PM σM' = PM σM) : RelP σC' σM' := by
  obtain ⟨⟨c1, c2, c3⟩, ⟨c4, c5⟩, ⟨c6, c7⟩, c8, ⟨d1, d2, d3, d4, d5⟩, c10, c11, c12, ⟨e1, e2, e3, e4, e5, e6⟩⟩ := PC_inj hc
  obtain ⟨⟨m1, m2, m3⟩, m4, ⟨n1, n2, n3, n4⟩, m6, m7, m8⟩ := PM_inj hm
  obtain ⟨r1, ⟨r2, r2'⟩, r3, r4, ⟨r5, r6, r7, r8⟩, r9⟩ := h
  refine ⟨?_, ⟨?_, by rw [d5]; exact r2'⟩, ?_, ?_, ⟨by rw [c12, n4]; exact r5, by rw [n4]; exact r6, by rw [n4]; exact r7, fun i hi => ?_⟩, ?_⟩
  · intro t ht
    rw [c1, c2, c3, m1, m2, m3]; exact r1 t ht
  · simp only [TapeR, d1, d2, d3, d4, m4, n1, n2, n3]; exact r2
  · rw [c8]; exact r3
  · obtain ⟨b1, b2⟩ := m6 0 (by decide)
    rw [c8]; simp only [BlockR, c4, c5, c6, c7, c10]
    rw [show (0:Nat) = 600 * 0 from rfl, b1, show (600 * 0 : Nat) = 14 * 0 from rfl, b2]; exact r4
  · rw [n4] at hi
    obtain ⟨b1, b2⟩ := m6 (i + 1) (by have := nat_i (gI σM 12 0 0 23); have := i32_le.mp r7; have : (3 : Int32).toInt = 3 := rfl; omega)
    have := r8 i hi
    simp only [BlockR, c4, c5, c6, c7, c11, b1, b2] at this ⊢; exact this
  · rw [e1, e2, e3, e4, e5, e6, m7, m8]; exact r9
theorem Rel.q {σC σM σC' σM' : Mem} (h : Rel σC σM) (hc : PC σC' = PC σC) (hm : PM σM' = PM σM) (hs : gI σC' 11 0 0 0 = gI σM' 12 0 0 0) (ht : gL σC' 11 0 0 1 = gL σM' 12 0 0 2) (hb : gL σC' 11 0 0 2 = gL σM' 12 0 0 3) : Rel σC' σM' := ⟨h.1.congr hc hm, hs, ht, hb⟩
