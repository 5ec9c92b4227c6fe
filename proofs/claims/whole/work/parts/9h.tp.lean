/-! PURE. tent: the tent that is being read, on both sides. -/
section TPA
theorem upd_ne {f : Nat → Int32} {k j : Nat} {x : Int32} (h : ¬ j = k) : upd f k x j = f j := if_neg h
theorem upd_s {f : Nat → Int32} {k : Nat} {x : Int32} : upd f k x k = x := if_pos rfl
theorem updL_ne {f : Nat → Int64} {k j : Nat} {x : Int64} (h : ¬ j = k) : vp_updL f k x j = f j := if_neg h
theorem updL_s {f : Nat → Int64} {k : Nat} {x : Int64} : vp_updL f k x k = x := if_pos rfl
def uV (A : VI) (c j : Nat) (v : Int32) : VI := fun c' j' => if c' = c ∧ j' = j then v else A c' j'
def uVL (A : VL) (c j : Nat) (v : Int64) : VL := fun c' j' => if c' = c ∧ j' = j then v else A c' j'
def sh (C : Nat → Int32) : Nat → Int32 := fun j => C (2400 + j)
def shW (W : Nat → Int64) : Nat → Int64 := fun j => W (56 + j)
def tl (a b c : Bool) : Int32 := (if a = true then 1 else 0) ||| ((if b = true then 4 else 0) ||| (if c = true then 8 else 0))
theorem tl_1 : ∀ a b c, (tl a b c &&& 1 = 0 ↔ a = false) ∧ tl a b c ||| 1 = tl true b c := by decide
theorem tl_4 : ∀ a b c, (tl a b c &&& 4 = 0 ↔ b = false) ∧ tl a b c ||| 4 = tl a true c := by decide
theorem tl_8 : ∀ a b c, (tl a b c &&& 8 = 0 ↔ c = false) ∧ tl a b c ||| 8 = tl a b true := by decide
/-- the class's tent A, AL is the model's new block c, w, and what is not there yet is 0 -/
def TP (A : VI) (AL : VL) (c : Nat → Int32) (w : Nat → Int64) (B : Nat → Bool) : Prop :=
  TentOk c ∧ TentR A AL c w ∧ (∀ k, nat (c 5) ≤ k → k < 8 → c (37 + k) = 0 ∧ c (45 + k) = 0) ∧ (∀ k, nat (c 6) ≤ k → k < 6 → c (65 + k) = 0 ∧ c (71 + k) = 0) ∧
  (c 7 = 0 ∧ c 8 = 0 ∧ c 323 = 0 ∧ ∀ k, k < 6 → c (77 + k) = 0) ∧ A 0 19 = tl (B 24) (B 25) (B 26)
section TPB
variable {A A' : VI} {AL AL' : VL} {c c' : Nat → Int32} {w w' : Nat → Int64} {B B' : Nat → Bool} {k : Nat}
/-- one of the first four numbers -/
theorem TP.top (h : TP A AL c w B) {i : Nat} {v : Int32} (hi : i < 4) (hr : (i = 0 → 12 ≤ v ∧ v ≤ 48) ∧ (i = 1 → 3 ≤ v ∧ v ≤ 12) ∧ (i = 2 → 4 ≤ v ∧ v ≤ 20) ∧ (i = 3 → -9 ≤ v ∧ v ≤ 9))
    (hA : ∀ x j, ¬ (x = 0 ∧ j = i) → A' x j = A x j) (ha : A' 0 i = v) (hc : ∀ j, ¬ j = i → c' j = c j) (hv : c' i = v) : TP A' AL c' w B := by
  obtain ⟨⟨o0, o1, o2, o3, o4, o5, o6, o7, o8, o9, o10⟩, ⟨r0, r1, r2, r3, r4, r5, r6, r7, r8, r9⟩, z1, z2, ⟨z3, z4, z5, z6⟩, t⟩ := h
  have e4 := hc 4 (by omega)
  have e5 := hc 5 (by omega)
  have e6 := hc 6 (by omega)
  refine ⟨⟨?_, ?_, ?_, ?_, by rw [e4]; exact o4, by rw [e5]; exact o5, by rw [e6]; exact o6, fun k hk => ?_, fun k hk => ?_, fun k hk => ?_, fun k hk => ?_⟩, ⟨?_, ?_, ?_, ?_, ?_, ?_, ?_, fun k hk => ?_, fun k hk => ?_, fun k hk => ?_⟩, fun k h1 h2 => ?_, fun k h1 h2 => ?_, ⟨?_, ?_, ?_, fun k hk => ?_⟩, ?_⟩
  · by_cases e : 0 = i
    · rw [e, hv]; exact hr.1 e.symm
    · rw [hc 0 e]; exact o0
  · by_cases e : 1 = i
    · rw [e, hv]; exact hr.2.1 e.symm
    · rw [hc 1 e]; exact o1
  · by_cases e : 2 = i
    · rw [e, hv]; exact hr.2.2.1 e.symm
    · rw [hc 2 e]; exact o2
  · by_cases e : 3 = i
    · rw [e, hv]; exact hr.2.2.2 e.symm
    · rw [hc 3 e]; exact o3
  · rw [e4] at hk; rw [hc _ (by omega), hc _ (by omega)]; exact o7 k hk
  · rw [e4] at hk; rw [hc _ (by omega), hc _ (by omega), hc _ (by omega), hc _ (by omega)]; exact o8 k hk
  · rw [e5] at hk; rw [hc _ (by omega), hc _ (by omega), hc _ (by omega), hc _ (by omega)]; exact o9 k hk
  · rw [e6] at hk; rw [hc _ (by omega), hc _ (by omega), hc _ (by omega), hc _ (by omega)]; exact o10 k hk
  · by_cases e : 0 = i
    · subst e; rw [hv, ha]
    · rw [hc 0 e, hA 0 0 (fun h => e h.2)]; exact r0
  · by_cases e : 1 = i
    · rw [e, hv, ha]
    · rw [hc 1 e, hA 0 1 (fun h => e h.2)]; exact r1
  · by_cases e : 2 = i
    · rw [e, hv, ha]
    · rw [hc 2 e, hA 0 2 (fun h => e h.2)]; exact r2
  · by_cases e : 3 = i
    · rw [e, hv, ha]
    · rw [hc 3 e, hA 0 3 (fun h => e h.2)]; exact r3
  · rw [e4, hA 0 4 (by omega)]; exact r4
  · rw [e5, hA 0 7 (by omega)]; exact r5
  · rw [e6, hA 0 13 (by omega)]; exact r6
  · rw [e4] at hk; rw [hc _ (by omega), hc _ (by omega), hA 1 k (by omega), hA 2 k (by omega)]; exact r7 k hk
  · rw [e5] at hk; rw [hc _ (by omega), hc _ (by omega), hc _ (by omega), hc _ (by omega), hA 4 k (by omega), hA 5 k (by omega), hA 6 k (by omega), hA 7 k (by omega)]; exact r8 k hk
  · rw [e6] at hk; rw [hc _ (by omega), hc _ (by omega), hc _ (by omega), hc _ (by omega), hA 9 k (by omega), hA 10 k (by omega), hA 11 k (by omega), hA 12 k (by omega)]; exact r9 k hk
  · rw [e5] at h1; rw [hc _ (by omega), hc _ (by omega)]; exact z1 k h1 h2
  · rw [e6] at h1; rw [hc _ (by omega), hc _ (by omega)]; exact z2 k h1 h2
  · rw [hc _ (by omega)]; exact z3
  · rw [hc _ (by omega)]; exact z4
  · rw [hc _ (by omega)]; exact z5
  · rw [hc _ (by omega)]; exact z6 k hk
  · rw [hA 0 19 (by omega)]; exact t
theorem TP.told (h : TP A AL c w B) (hA : ∀ x j, ¬ (x = 0 ∧ j = 19) → A' x j = A x j) (ha : A' 0 19 = tl (B' 24) (B' 25) (B' 26)) : TP A' AL c w B' := by
  obtain ⟨o, ⟨r0, r1, r2, r3, r4, r5, r6, r7, r8, r9⟩, z1, z2, z3, t⟩ := h
  refine ⟨o, ⟨?_, ?_, ?_, ?_, ?_, ?_, ?_, fun k hk => ?_, fun k hk => ?_, fun k hk => ?_⟩, z1, z2, z3, ha⟩
  · rw [hA _ _ (by omega)]; exact r0
  · rw [hA _ _ (by omega)]; exact r1
  · rw [hA _ _ (by omega)]; exact r2
  · rw [hA _ _ (by omega)]; exact r3
  · rw [hA _ _ (by omega)]; exact r4
  · rw [hA _ _ (by omega)]; exact r5
  · rw [hA _ _ (by omega)]; exact r6
  · rw [hA 1 k (by omega), hA 2 k (by omega)]; exact r7 k hk
  · rw [hA 4 k (by omega), hA 5 k (by omega), hA 6 k (by omega), hA 7 k (by omega)]; exact r8 k hk
  · rw [hA 9 k (by omega), hA 10 k (by omega), hA 11 k (by omega), hA 12 k (by omega)]; exact r9 k hk
theorem nk1 {k n : Nat} {m : Int32} (hk : k + 1 ≤ n) (hn : n < 1000) (hm : m = nI n) : (0 : Int32) ≤ nI (k + 1) ∧ nI (k + 1) ≤ m := by
  subst hm; exact ⟨nI_pos' (by omega), nI_le hk (by omega)⟩
theorem TP.ring (h : TP A AL c w B) {a b : Int32} (hk : c 4 = nI k) (k6 : k < 6) (ra : 1 ≤ a ∧ a ≤ 60) (rb : 1 ≤ b ∧ b ≤ 20) (rl : ∀ l, l + 1 = k → a < c (9 + l) ∧ c (15 + l) < b)
    (hA : ∀ x j, ¬ (x = 1 ∧ j = k) → ¬ (x = 2 ∧ j = k) → ¬ (x = 0 ∧ j = 4) → A' x j = A x j) (a1 : A' 1 k = a) (a2 : A' 2 k = b) (a4 : A' 0 4 = nI (k + 1))
    (hc : ∀ j, ¬ j = 9 + k → ¬ j = 15 + k → ¬ j = 4 → c' j = c j) (c1 : c' (9 + k) = a) (c2 : c' (15 + k) = b) (c4 : c' 4 = nI (k + 1)) : TP A' AL c' w B := by
  obtain ⟨⟨o0, o1, o2, o3, o4, o5, o6, o7, o8, o9, o10⟩, ⟨r0, r1, r2, r3, r4, r5, r6, r7, r8, r9⟩, z1, z2, ⟨z3, z4, z5, z6⟩, t⟩ := h
  have n4 : nat (c 4) = k := by rw [hk]; exact nat_nI (by omega)
  have n4' : nat (c' 4) = k + 1 := by rw [c4]; exact nat_nI (by omega)
  have e5 := hc 5 (by omega) (by omega) (by omega)
  have e6 := hc 6 (by omega) (by omega) (by omega)
  have n5 : nat (c 5) ≤ 8 := ok_n5 ⟨o0, o1, o2, o3, o4, o5, o6, o7, o8, o9, o10⟩
  have n6 : nat (c 6) ≤ 6 := ok_n6 ⟨o0, o1, o2, o3, o4, o5, o6, o7, o8, o9, o10⟩
  refine ⟨⟨?_, ?_, ?_, ?_, by rw [c4]; exact nk1 (n := 6) (by omega) (by omega) rfl, by rw [e5]; exact o5, by rw [e6]; exact o6, fun i hi => ?_, fun i hi => ?_, fun i hi => ?_, fun i hi => ?_⟩, ⟨?_, ?_, ?_, ?_, ?_, ?_, ?_, fun i hi => ?_, fun i hi => ?_, fun i hi => ?_⟩, fun i h1 h2 => ?_, fun i h1 h2 => ?_, ⟨?_, ?_, ?_, fun i hi => ?_⟩, ?_⟩
  · rw [hc _ (by omega) (by omega) (by omega)]; exact o0
  · rw [hc _ (by omega) (by omega) (by omega)]; exact o1
  · rw [hc _ (by omega) (by omega) (by omega)]; exact o2
  · rw [hc _ (by omega) (by omega) (by omega)]; exact o3
  · rw [n4'] at hi
    by_cases e : i = k
    · subst e; rw [c1, c2]; exact ⟨ra, rb⟩
    · rw [hc _ (by omega) (by omega) (by omega), hc _ (by omega) (by omega) (by omega)]; exact o7 i (by omega)
  · rw [n4'] at hi
    by_cases e : i + 1 = k
    · subst e; rw [c1, c2, hc _ (by omega) (by omega) (by omega), hc _ (by omega) (by omega) (by omega)]; exact rl i rfl
    · rw [hc _ (by omega) (by omega) (by omega), hc _ (by omega) (by omega) (by omega), hc _ (by omega) (by omega) (by omega), hc _ (by omega) (by omega) (by omega)]; exact o8 i (by omega)
  · rw [e5] at hi; rw [hc _ (by omega) (by omega) (by omega), hc _ (by omega) (by omega) (by omega), hc _ (by omega) (by omega) (by omega), hc _ (by omega) (by omega) (by omega)]; exact o9 i hi
  · rw [e6] at hi; rw [hc _ (by omega) (by omega) (by omega), hc _ (by omega) (by omega) (by omega), hc _ (by omega) (by omega) (by omega), hc _ (by omega) (by omega) (by omega)]; exact o10 i hi
  · rw [hc _ (by omega) (by omega) (by omega), hA _ _ (by omega) (by omega) (by omega)]; exact r0
  · rw [hc _ (by omega) (by omega) (by omega), hA _ _ (by omega) (by omega) (by omega)]; exact r1
  · rw [hc _ (by omega) (by omega) (by omega), hA _ _ (by omega) (by omega) (by omega)]; exact r2
  · rw [hc _ (by omega) (by omega) (by omega), hA _ _ (by omega) (by omega) (by omega)]; exact r3
  · rw [a4, c4]
  · rw [e5, hA _ _ (by omega) (by omega) (by omega)]; exact r5
  · rw [e6, hA _ _ (by omega) (by omega) (by omega)]; exact r6
  · rw [n4'] at hi
    by_cases e : i = k
    · subst e; rw [c1, c2]; exact ⟨a1, a2⟩
    · rw [hc _ (by omega) (by omega) (by omega), hc _ (by omega) (by omega) (by omega), hA 1 i (by omega) (by omega) (by omega), hA 2 i (by omega) (by omega) (by omega)]; exact r7 i (by omega)
  · rw [e5] at hi; rw [hc _ (by omega) (by omega) (by omega), hc _ (by omega) (by omega) (by omega), hc _ (by omega) (by omega) (by omega), hc _ (by omega) (by omega) (by omega), hA 4 i (by omega) (by omega) (by omega), hA 5 i (by omega) (by omega) (by omega), hA 6 i (by omega) (by omega) (by omega), hA 7 i (by omega) (by omega) (by omega)]; exact r8 i hi
  · rw [e6] at hi; rw [hc _ (by omega) (by omega) (by omega), hc _ (by omega) (by omega) (by omega), hc _ (by omega) (by omega) (by omega), hc _ (by omega) (by omega) (by omega), hA 9 i (by omega) (by omega) (by omega), hA 10 i (by omega) (by omega) (by omega), hA 11 i (by omega) (by omega) (by omega), hA 12 i (by omega) (by omega) (by omega)]; exact r9 i hi
  · rw [e5] at h1; rw [hc _ (by omega) (by omega) (by omega), hc _ (by omega) (by omega) (by omega)]; exact z1 i h1 h2
  · rw [e6] at h1; rw [hc _ (by omega) (by omega) (by omega), hc _ (by omega) (by omega) (by omega)]; exact z2 i h1 h2
  · rw [hc _ (by omega) (by omega) (by omega)]; exact z3
  · rw [hc _ (by omega) (by omega) (by omega)]; exact z4
  · rw [hc _ (by omega) (by omega) (by omega)]; exact z5
  · rw [hc _ (by omega) (by omega) (by omega)]; exact z6 i hi
  · rw [hA _ _ (by omega) (by omega) (by omega)]; exact t
theorem TP.pea (h : TP A AL c w B) {a b d f : Int32} {nm : Int64} (hk : c 5 = nI k) (k8 : k < 8) (ra : 1 ≤ a ∧ a ≤ 12) (rb : 1 ≤ b ∧ b ≤ 20) (rd : 0 ≤ d ∧ d ≤ 4) (rf : f = 0 ∨ f = 1)
    (hA : ∀ x j, ¬ (x = 4 ∧ j = k) → ¬ (x = 5 ∧ j = k) → ¬ (x = 6 ∧ j = k) → ¬ (x = 7 ∧ j = k) → ¬ (x = 0 ∧ j = 7) → A' x j = A x j) (a1 : A' 4 k = a) (a2 : A' 5 k = b) (a3 : A' 6 k = d) (a4 : A' 7 k = f) (a5 : A' 0 7 = nI (k + 1))
    (hl : ∀ x j, ¬ (x = 3 ∧ j = k) → AL' x j = AL x j) (l1 : AL' 3 k = nm) (hw : ∀ j, ¬ j = k → w' j = w j) (w1 : w' k = nm)
    (hc : ∀ j, ¬ j = 21 + k → ¬ j = 29 + k → ¬ j = 37 + k → ¬ j = 45 + k → ¬ j = 5 → c' j = c j) (c1 : c' (21 + k) = a) (c2 : c' (29 + k) = b) (c3 : c' (37 + k) = d) (c4 : c' (45 + k) = f) (c5 : c' 5 = nI (k + 1)) : TP A' AL' c' w' B := by
  obtain ⟨⟨o0, o1, o2, o3, o4, o5, o6, o7, o8, o9, o10⟩, ⟨r0, r1, r2, r3, r4, r5, r6, r7, r8, r9⟩, z1, z2, ⟨z3, z4, z5, z6⟩, t⟩ := h
  have n5 : nat (c 5) = k := by rw [hk]; exact nat_nI (by omega)
  have n5' : nat (c' 5) = k + 1 := by rw [c5]; exact nat_nI (by omega)
  have n4 : nat (c 4) ≤ 6 := ok_n4 ⟨o0, o1, o2, o3, o4, o5, o6, o7, o8, o9, o10⟩
  have n6 : nat (c 6) ≤ 6 := ok_n6 ⟨o0, o1, o2, o3, o4, o5, o6, o7, o8, o9, o10⟩
  have e4 := hc 4 (by omega) (by omega) (by omega) (by omega) (by omega)
  have e6 := hc 6 (by omega) (by omega) (by omega) (by omega) (by omega)
  refine ⟨⟨?_, ?_, ?_, ?_, by rw [e4]; exact o4, by rw [c5]; exact nk1 (n := 8) (by omega) (by omega) rfl, by rw [e6]; exact o6, fun i hi => ?_, fun i hi => ?_, fun i hi => ?_, fun i hi => ?_⟩, ⟨?_, ?_, ?_, ?_, ?_, ?_, ?_, fun i hi => ?_, fun i hi => ?_, fun i hi => ?_⟩, fun i h1 h2 => ?_, fun i h1 h2 => ?_, ⟨?_, ?_, ?_, fun i hi => ?_⟩, ?_⟩
  · rw [hc _ (by omega) (by omega) (by omega) (by omega) (by omega)]; exact o0
  · rw [hc _ (by omega) (by omega) (by omega) (by omega) (by omega)]; exact o1
  · rw [hc _ (by omega) (by omega) (by omega) (by omega) (by omega)]; exact o2
  · rw [hc _ (by omega) (by omega) (by omega) (by omega) (by omega)]; exact o3
  · rw [e4] at hi; rw [hc _ (by omega) (by omega) (by omega) (by omega) (by omega), hc _ (by omega) (by omega) (by omega) (by omega) (by omega)]; exact o7 i hi
  · rw [e4] at hi; rw [hc _ (by omega) (by omega) (by omega) (by omega) (by omega), hc _ (by omega) (by omega) (by omega) (by omega) (by omega), hc _ (by omega) (by omega) (by omega) (by omega) (by omega), hc _ (by omega) (by omega) (by omega) (by omega) (by omega)]; exact o8 i hi
  · rw [n5'] at hi
    by_cases e : i = k
    · subst e; rw [c1, c2, c3, c4]; exact ⟨ra, rb, rd, rf⟩
    · rw [hc (21 + i) (by omega) (by omega) (by omega) (by omega) (by omega), hc (29 + i) (by omega) (by omega) (by omega) (by omega) (by omega), hc (37 + i) (by omega) (by omega) (by omega) (by omega) (by omega), hc (45 + i) (by omega) (by omega) (by omega) (by omega) (by omega)]; exact o9 i (by omega)
  · rw [e6] at hi; rw [hc _ (by omega) (by omega) (by omega) (by omega) (by omega), hc _ (by omega) (by omega) (by omega) (by omega) (by omega), hc _ (by omega) (by omega) (by omega) (by omega) (by omega), hc _ (by omega) (by omega) (by omega) (by omega) (by omega)]; exact o10 i hi
  · rw [hc _ (by omega) (by omega) (by omega) (by omega) (by omega), hA _ _ (by omega) (by omega) (by omega) (by omega) (by omega)]; exact r0
  · rw [hc _ (by omega) (by omega) (by omega) (by omega) (by omega), hA _ _ (by omega) (by omega) (by omega) (by omega) (by omega)]; exact r1
  · rw [hc _ (by omega) (by omega) (by omega) (by omega) (by omega), hA _ _ (by omega) (by omega) (by omega) (by omega) (by omega)]; exact r2
  · rw [hc _ (by omega) (by omega) (by omega) (by omega) (by omega), hA _ _ (by omega) (by omega) (by omega) (by omega) (by omega)]; exact r3
  · rw [e4, hA _ _ (by omega) (by omega) (by omega) (by omega) (by omega)]; exact r4
  · rw [a5, c5]
  · rw [e6, hA _ _ (by omega) (by omega) (by omega) (by omega) (by omega)]; exact r6
  · rw [e4] at hi; rw [hc _ (by omega) (by omega) (by omega) (by omega) (by omega), hc _ (by omega) (by omega) (by omega) (by omega) (by omega), hA 1 i (by omega) (by omega) (by omega) (by omega) (by omega), hA 2 i (by omega) (by omega) (by omega) (by omega) (by omega)]; exact r7 i hi
  · rw [n5'] at hi
    by_cases e : i = k
    · subst e; rw [c1, c2, c3, c4, l1, w1]; exact ⟨rfl, a1, a2, a3, a4⟩
    · rw [hc (21 + i) (by omega) (by omega) (by omega) (by omega) (by omega), hc (29 + i) (by omega) (by omega) (by omega) (by omega) (by omega), hc (37 + i) (by omega) (by omega) (by omega) (by omega) (by omega), hc (45 + i) (by omega) (by omega) (by omega) (by omega) (by omega),
        hA 4 i (by omega) (by omega) (by omega) (by omega) (by omega), hA 5 i (by omega) (by omega) (by omega) (by omega) (by omega), hA 6 i (by omega) (by omega) (by omega) (by omega) (by omega), hA 7 i (by omega) (by omega) (by omega) (by omega) (by omega), hl 3 i (by omega), hw i e]; exact r8 i (by omega)
  · rw [e6] at hi; rw [hc _ (by omega) (by omega) (by omega) (by omega) (by omega), hc _ (by omega) (by omega) (by omega) (by omega) (by omega), hc _ (by omega) (by omega) (by omega) (by omega) (by omega), hc _ (by omega) (by omega) (by omega) (by omega) (by omega),
      hA 9 i (by omega) (by omega) (by omega) (by omega) (by omega), hA 10 i (by omega) (by omega) (by omega) (by omega) (by omega), hA 11 i (by omega) (by omega) (by omega) (by omega) (by omega), hA 12 i (by omega) (by omega) (by omega) (by omega) (by omega), hl 8 i (by omega), hw (8 + i) (by omega)]; exact r9 i hi
  · rw [n5'] at h1; rw [hc _ (by omega) (by omega) (by omega) (by omega) (by omega), hc _ (by omega) (by omega) (by omega) (by omega) (by omega)]; exact z1 i (by omega) h2
  · rw [e6] at h1; rw [hc _ (by omega) (by omega) (by omega) (by omega) (by omega), hc _ (by omega) (by omega) (by omega) (by omega) (by omega)]; exact z2 i h1 h2
  · rw [hc _ (by omega) (by omega) (by omega) (by omega) (by omega)]; exact z3
  · rw [hc _ (by omega) (by omega) (by omega) (by omega) (by omega)]; exact z4
  · rw [hc _ (by omega) (by omega) (by omega) (by omega) (by omega)]; exact z5
  · rw [hc _ (by omega) (by omega) (by omega) (by omega) (by omega)]; exact z6 i hi
  · rw [hA _ _ (by omega) (by omega) (by omega) (by omega) (by omega)]; exact t
theorem TP.shooter (h : TP A AL c w B) {a b d f : Int32} {nm : Int64} (hk : c 6 = nI k) (k6 : k < 6) (ra : 1 ≤ a ∧ a ≤ 40) (rb : 0 ≤ b ∧ b ≤ 6) (rd : 0 ≤ d ∧ d ≤ 9) (rf : -9 ≤ f ∧ f ≤ 9)
    (hA : ∀ x j, ¬ (x = 9 ∧ j = k) → ¬ (x = 10 ∧ j = k) → ¬ (x = 11 ∧ j = k) → ¬ (x = 12 ∧ j = k) → ¬ (x = 0 ∧ j = 13) → A' x j = A x j) (a1 : A' 9 k = a) (a2 : A' 10 k = b) (a3 : A' 11 k = d) (a4 : A' 12 k = f) (a5 : A' 0 13 = nI (k + 1))
    (hl : ∀ x j, ¬ (x = 8 ∧ j = k) → AL' x j = AL x j) (l1 : AL' 8 k = nm) (hw : ∀ j, ¬ j = 8 + k → w' j = w j) (w1 : w' (8 + k) = nm)
    (hc : ∀ j, ¬ j = 53 + k → ¬ j = 59 + k → ¬ j = 65 + k → ¬ j = 71 + k → ¬ j = 6 → c' j = c j) (c1 : c' (53 + k) = a) (c2 : c' (59 + k) = b) (c3 : c' (65 + k) = d) (c4 : c' (71 + k) = f) (c5 : c' 6 = nI (k + 1)) : TP A' AL' c' w' B := by
  obtain ⟨⟨o0, o1, o2, o3, o4, o5, o6, o7, o8, o9, o10⟩, ⟨r0, r1, r2, r3, r4, r5, r6, r7, r8, r9⟩, z1, z2, ⟨z3, z4, z5, z6⟩, t⟩ := h
  have n6 : nat (c 6) = k := by rw [hk]; exact nat_nI (by omega)
  have n6' : nat (c' 6) = k + 1 := by rw [c5]; exact nat_nI (by omega)
  have n4 : nat (c 4) ≤ 6 := ok_n4 ⟨o0, o1, o2, o3, o4, o5, o6, o7, o8, o9, o10⟩
  have n5 : nat (c 5) ≤ 8 := ok_n5 ⟨o0, o1, o2, o3, o4, o5, o6, o7, o8, o9, o10⟩
  have e4 := hc 4 (by omega) (by omega) (by omega) (by omega) (by omega)
  have e5 := hc 5 (by omega) (by omega) (by omega) (by omega) (by omega)
  refine ⟨⟨?_, ?_, ?_, ?_, by rw [e4]; exact o4, by rw [e5]; exact o5, by rw [c5]; exact nk1 (n := 6) (by omega) (by omega) rfl, fun i hi => ?_, fun i hi => ?_, fun i hi => ?_, fun i hi => ?_⟩, ⟨?_, ?_, ?_, ?_, ?_, ?_, ?_, fun i hi => ?_, fun i hi => ?_, fun i hi => ?_⟩, fun i h1 h2 => ?_, fun i h1 h2 => ?_, ⟨?_, ?_, ?_, fun i hi => ?_⟩, ?_⟩
  · rw [hc _ (by omega) (by omega) (by omega) (by omega) (by omega)]; exact o0
  · rw [hc _ (by omega) (by omega) (by omega) (by omega) (by omega)]; exact o1
  · rw [hc _ (by omega) (by omega) (by omega) (by omega) (by omega)]; exact o2
  · rw [hc _ (by omega) (by omega) (by omega) (by omega) (by omega)]; exact o3
  · rw [e4] at hi; rw [hc _ (by omega) (by omega) (by omega) (by omega) (by omega), hc _ (by omega) (by omega) (by omega) (by omega) (by omega)]; exact o7 i hi
  · rw [e4] at hi; rw [hc _ (by omega) (by omega) (by omega) (by omega) (by omega), hc _ (by omega) (by omega) (by omega) (by omega) (by omega), hc _ (by omega) (by omega) (by omega) (by omega) (by omega), hc _ (by omega) (by omega) (by omega) (by omega) (by omega)]; exact o8 i hi
  · rw [e5] at hi; rw [hc _ (by omega) (by omega) (by omega) (by omega) (by omega), hc _ (by omega) (by omega) (by omega) (by omega) (by omega), hc _ (by omega) (by omega) (by omega) (by omega) (by omega), hc _ (by omega) (by omega) (by omega) (by omega) (by omega)]; exact o9 i hi
  · rw [n6'] at hi
    by_cases e : i = k
    · subst e; rw [c1, c2, c3, c4]; exact ⟨ra, rb, rd, rf⟩
    · rw [hc (53 + i) (by omega) (by omega) (by omega) (by omega) (by omega), hc (59 + i) (by omega) (by omega) (by omega) (by omega) (by omega), hc (65 + i) (by omega) (by omega) (by omega) (by omega) (by omega), hc (71 + i) (by omega) (by omega) (by omega) (by omega) (by omega)]; exact o10 i (by omega)
  · rw [hc _ (by omega) (by omega) (by omega) (by omega) (by omega), hA _ _ (by omega) (by omega) (by omega) (by omega) (by omega)]; exact r0
  · rw [hc _ (by omega) (by omega) (by omega) (by omega) (by omega), hA _ _ (by omega) (by omega) (by omega) (by omega) (by omega)]; exact r1
  · rw [hc _ (by omega) (by omega) (by omega) (by omega) (by omega), hA _ _ (by omega) (by omega) (by omega) (by omega) (by omega)]; exact r2
  · rw [hc _ (by omega) (by omega) (by omega) (by omega) (by omega), hA _ _ (by omega) (by omega) (by omega) (by omega) (by omega)]; exact r3
  · rw [e4, hA _ _ (by omega) (by omega) (by omega) (by omega) (by omega)]; exact r4
  · rw [e5, hA _ _ (by omega) (by omega) (by omega) (by omega) (by omega)]; exact r5
  · rw [a5, c5]
  · rw [e4] at hi; rw [hc _ (by omega) (by omega) (by omega) (by omega) (by omega), hc _ (by omega) (by omega) (by omega) (by omega) (by omega), hA 1 i (by omega) (by omega) (by omega) (by omega) (by omega), hA 2 i (by omega) (by omega) (by omega) (by omega) (by omega)]; exact r7 i hi
  · rw [e5] at hi; rw [hc _ (by omega) (by omega) (by omega) (by omega) (by omega), hc _ (by omega) (by omega) (by omega) (by omega) (by omega), hc _ (by omega) (by omega) (by omega) (by omega) (by omega), hc _ (by omega) (by omega) (by omega) (by omega) (by omega),
      hA 4 i (by omega) (by omega) (by omega) (by omega) (by omega), hA 5 i (by omega) (by omega) (by omega) (by omega) (by omega), hA 6 i (by omega) (by omega) (by omega) (by omega) (by omega), hA 7 i (by omega) (by omega) (by omega) (by omega) (by omega), hl 3 i (by omega), hw i (by omega)]; exact r8 i hi
  · rw [n6'] at hi
    by_cases e : i = k
    · subst e; rw [c1, c2, c3, c4, l1, w1]; exact ⟨rfl, a1, a2, a3, a4⟩
    · rw [hc (53 + i) (by omega) (by omega) (by omega) (by omega) (by omega), hc (59 + i) (by omega) (by omega) (by omega) (by omega) (by omega), hc (65 + i) (by omega) (by omega) (by omega) (by omega) (by omega), hc (71 + i) (by omega) (by omega) (by omega) (by omega) (by omega),
        hA 9 i (by omega) (by omega) (by omega) (by omega) (by omega), hA 10 i (by omega) (by omega) (by omega) (by omega) (by omega), hA 11 i (by omega) (by omega) (by omega) (by omega) (by omega), hA 12 i (by omega) (by omega) (by omega) (by omega) (by omega), hl 8 i (by omega), hw (8 + i) (by omega)]; exact r9 i (by omega)
  · rw [e5] at h1; rw [hc _ (by omega) (by omega) (by omega) (by omega) (by omega), hc _ (by omega) (by omega) (by omega) (by omega) (by omega)]; exact z1 i h1 h2
  · rw [n6'] at h1; rw [hc _ (by omega) (by omega) (by omega) (by omega) (by omega), hc _ (by omega) (by omega) (by omega) (by omega) (by omega)]; exact z2 i (by omega) h2
  · rw [hc _ (by omega) (by omega) (by omega) (by omega) (by omega)]; exact z3
  · rw [hc _ (by omega) (by omega) (by omega) (by omega) (by omega)]; exact z4
  · rw [hc _ (by omega) (by omega) (by omega) (by omega) (by omega)]; exact z5
  · rw [hc _ (by omega) (by omega) (by omega) (by omega) (by omega)]; exact z6 i hi
  · rw [hA _ _ (by omega) (by omega) (by omega) (by omega) (by omega)]; exact t
end TPB
end TPA
