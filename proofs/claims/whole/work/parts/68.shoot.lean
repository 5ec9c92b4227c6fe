/-! PURE. A shot by hand: what changes in the tally. -/
section SHT
variable {σC σM σC1 σM1 σ τ : Mem} {c c' : Nat → Int32}
/-- as they were, the tally aside -/
def Agr (c c' : Nat → Int32) : Prop := ∀ j, (j < 7 ∨ (9 ≤ j ∧ j < 77) ∨ 323 ≤ j) → c' j = c j
theorem Agr.z : Agr c c := fun _ _ => rfl
theorem Agr.t {c2 : Nat → Int32} (h : Agr c c') (k : Agr c' c2) : Agr c c2 := fun j hj => (k j hj).trans (h j hj)
theorem TentOk.agr (o : TentOk c) (h : Agr c c') : TentOk c' := by
  have n4 := ok_n4 o
  have n5 := ok_n5 o
  have n6 := ok_n6 o
  obtain ⟨o0, o1, o2, o3, o4, o5, o6, o7, o8, o9, o10⟩ := o
  have e0 := h 0 (by omega)
  have e1 := h 1 (by omega)
  have e2 := h 2 (by omega)
  have e3 := h 3 (by omega)
  have e4 := h 4 (by omega)
  have e5 := h 5 (by omega)
  have e6 := h 6 (by omega)
  refine ⟨by rw [e0]; exact o0, by rw [e1]; exact o1, by rw [e2]; exact o2, by rw [e3]; exact o3, by rw [e4]; exact o4, by rw [e5]; exact o5, by rw [e6]; exact o6, fun k hk => ?_, fun k hk => ?_, fun k hk => ?_, fun k hk => ?_⟩
  · rw [e4] at hk; rw [h _ (by omega), h _ (by omega)]; exact o7 k hk
  · rw [e4] at hk; rw [h _ (by omega), h _ (by omega), h _ (by omega), h _ (by omega)]; exact o8 k hk
  · rw [e5] at hk; rw [h _ (by omega), h _ (by omega), h _ (by omega), h _ (by omega)]; exact o9 k hk
  · rw [e6] at hk; rw [h _ (by omega), h _ (by omega), h _ (by omega), h _ (by omega)]; exact o10 k hk
theorem TentT.agr {ti : VI} (ht : TentT ti c) (o : TentOk c) (h : Agr c c') : TentT ti c' := by
  have n4 := ok_n4 o
  have n5 := ok_n5 o
  have n6 := ok_n6 o
  obtain ⟨⟨t1, t2, t3, t4, t5, t6⟩, t7, t8, t9⟩ := ht
  have e4 := h 4 (by omega)
  have e5 := h 5 (by omega)
  have e6 := h 6 (by omega)
  refine ⟨⟨by rw [h 1 (by omega)]; exact t1, by rw [h 2 (by omega)]; exact t2, by rw [h 3 (by omega)]; exact t3, by rw [e4]; exact t4, by rw [e5]; exact t5, by rw [e6]; exact t6⟩, fun k hk => ?_, fun k hk => ?_, fun k hk => ?_⟩
  · rw [e4] at hk; rw [h _ (by omega), h _ (by omega)]; exact t7 k hk
  · rw [e5] at hk; rw [h _ (by omega), h _ (by omega), h _ (by omega), h _ (by omega)]; exact t8 k hk
  · rw [e6] at hk; rw [h _ (by omega), h _ (by omega), h _ (by omega), h _ (by omega)]; exact t9 k hk
theorem TentR.agr {ti : VI} {tl : VL} {w : Nat → Int64} (ht : TentR ti tl c w) (o : TentOk c) (h : Agr c c') : TentR ti tl c' w := by
  obtain ⟨⟨t1, t2, t3, t4, t5, t6⟩, t7, t8, t9⟩ := ht.T.agr o h
  have e5 := h 5 (by omega)
  have e6 := h 6 (by omega)
  refine ⟨by rw [h 0 (by omega)]; exact ht.1, t1, t2, t3, t4, t5, t6, t7, fun k hk => ⟨?_, t8 k hk⟩, fun k hk => ⟨?_, t9 k hk⟩⟩
  · rw [e5] at hk; exact (ht.2.2.2.2.2.2.2.2.1 k hk).1
  · rw [e6] at hk; exact (ht.2.2.2.2.2.2.2.2.2 k hk).1
theorem StepS.agr {ri : VI} {w p : Nat} (s : StepS ri c w p) (h : Agr c c') (hw : 325 ≤ w) : StepS ri c' w p := by
  unfold StepS at *
  rw [h 5 (by omega), h 6 (by omega), h w (by omega), h (w + 1) (by omega), h (w + 2) (by omega)]; exact s
theorem StepB.agr {ri : VI} {w p q : Nat} (s : StepB ri c w p q) (h : Agr c c') (hw : 325 ≤ w) : StepB ri c' w p q := by
  unfold StepB at *
  rw [h 6 (by omega), h w (by omega), h (w + 1) (by omega), h (w + 2) (by omega), h (w + 6) (by omega), h (w + 7) (by omega)]; exact s
theorem Seg.agr {ri : VI} (h : Agr c c') : ∀ n d s e p q, Seg ri c n d s e p q → Seg ri c' n d s e p q := by
  intro n
  induction n with
  | zero => intro d s e p q k; exact k
  | succ n ih =>
    intro d s e p q k
    unfold Seg at k ⊢
    rcases k with k | ⟨k0, ⟨k1, k2, k3⟩ | ⟨e1, q1, d1, k1, k2, k3, k4, k5, k6, k7⟩⟩
    · exact .inl k
    · exact .inr ⟨k0, .inl ⟨k1.agr h (by omega), by rw [h _ (by omega)]; exact k2, ih _ _ _ _ _ k3⟩⟩
    · exact .inr ⟨k0, .inr ⟨e1, q1, d1, k1, k2, k3, by rw [h _ (by omega)]; exact k4, k5.agr h (by omega), ih _ _ _ _ _ k6, ih _ _ _ _ _ k7⟩⟩
theorem RoundR.agr {ri : VI} {rb : VB} (r : RoundR ri rb c) (h : Agr c c') : RoundR ri rb c' := by
  have e3 := h 323 (by omega)
  have e4 := h 324 (by omega)
  rcases r with ⟨r1, r2⟩ | ⟨r1, r2, N, P, r3, r4, r5, r6, r7, r8⟩
  · exact .inl ⟨r1, by rw [e3]; exact r2⟩
  · exact .inr ⟨r1, by rw [e3]; exact r2, N, P, r3, r4, r5, by rw [e4]; exact r6, r7, Seg.agr h _ _ _ _ _ _ r8⟩
def inW (X Y : Int32) : Bool := F11_within X (-99) 99 && F11_within Y (-99) 99
/-- the tally after a strike -/
def strT (u : TYV) (s p : Nat) (X Y P : Int32) : TYV :=
  if inW X Y = true then (iMin 20 (u.1 + 1), u.2.1 + 1, upd u.2.2.1 (nat u.2.1) X, upd u.2.2.2.1 (nat u.2.1) Y, upd u.2.2.2.2.1 (nat u.2.1) (nI s), upd u.2.2.2.2.2.1 (nat u.2.1) (nI p), upd u.2.2.2.2.2.2 s (u.2.2.2.2.2.2 s + P))
  else (iMin 20 (u.1 + 1), u.2.1, u.2.2.1, u.2.2.2.1, u.2.2.2.2.1, u.2.2.2.2.2.1, upd u.2.2.2.2.2.2 s (u.2.2.2.2.2.2 s + P))
def strC0 (c : Nat → Int32) (s : Nat) (P : Int32) : Nat → Int32 := upd (upd c 7 (iMin 20 (c 7 + 1))) (77 + s) (c (77 + s) + P)
def strC (c : Nat → Int32) (s p : Nat) (X Y P : Int32) : Nat → Int32 :=
  if inW X Y = true then upd (upd (upd (upd (upd (strC0 c s P) (83 + 4 * nat (c 8)) X) (84 + 4 * nat (c 8)) Y) (85 + 4 * nat (c 8)) (nI s)) (86 + 4 * nat (c 8)) (nI p)) 8 (c 8 + 1)
  else strC0 c s P
theorem iMin20 {x : Int32} (h : 0 ≤ x ∧ x ≤ 20) : 0 ≤ iMin 20 (x + 1) ∧ iMin 20 (x + 1) ≤ 20 := by
  have b := b32 h
  have e0 : (0 : Int32).toInt = 0 := rfl
  have e1 : (20 : Int32).toInt = 20 := rfl
  have e2 : (1 : Int32).toInt = 1 := rfl
  have a : (x + 1).toInt = x.toInt + 1 := by rw [i32_add] <;> rw [e2] <;> omega
  unfold iMin
  split
  · rename_i h2
    rw [i32_lt] at h2
    exact ⟨i32_le.mpr (by omega), i32_le.mpr (by omega)⟩
  · exact ⟨by decide, by decide⟩
theorem str_agr {s p : Nat} {X Y P : Int32} (hs : s < 6) (h8 : nat (c 8) < 60) : Agr c (strC c s p X Y P) := by
  intro j hj
  unfold strC strC0
  split
  · simp only [upd_eq]
    rw [if_neg (by omega), if_neg (by omega), if_neg (by omega), if_neg (by omega), if_neg (by omega), if_neg (by omega), if_neg (by omega)]
  · simp only [upd_eq]
    rw [if_neg (by omega), if_neg (by omega)]
theorem str_hi {s p : Nat} {X Y P : Int32} (hs : s < 6) (h8 : nat (c 8) < 60) {j : Nat} (hj : 323 ≤ j) : strC c s p X Y P j = c j := str_agr hs h8 j (.inr (.inr hj))
theorem str_ta {u : TYV} {s p : Nat} {X Y P : Int32} (h : TallyR u c) (hs : s < 6) (h8 : nat (c 8) < 60) : TallyR (strT u s p X Y P) (strC c s p X Y P) := by
  obtain ⟨⟨h1, h2⟩, ⟨h3, h4⟩, h5, h6⟩ := h
  have n8 : c 8 = nI (nat (c 8)) := nI_of32 h4.1
  have i7 := iMin20 h3
  have sc : ∀ k, k < 6 → upd u.2.2.2.2.2.2 s (u.2.2.2.2.2.2 s + P) k = upd (upd c 7 (iMin 20 (c 7 + 1))) (77 + s) (c (77 + s) + P) (77 + k) := by
    intro k hk
    simp only [upd_eq]
    by_cases e : k = s
    · rw [if_pos e, if_pos (by omega), h5 s hs]
    · rw [if_neg e, if_neg (by omega), if_neg (by omega), h5 k hk]
  by_cases hw : inW X Y = true
  · have hww : F11_within X (-99) 99 = true ∧ F11_within Y (-99) 99 = true := by unfold inW at hw; simpa using hw
    have e1 : nat (c 8 + 1) = nat (c 8) + 1 := by
      have : c 8 + 1 = nI (nat (c 8) + 1) := by rw [← nI_1, ← n8]
      rw [this, nat_nI (by omega)]
    unfold strT strC strC0
    rw [if_pos hw, if_pos hw, h1, h2]
    refine ⟨⟨?_, ?_⟩, ⟨?_, ?_⟩, fun k hk => ?_, fun k hk => ?_⟩
    · simp only [upd_eq]
      rw [if_neg (by omega), if_neg (by omega), if_neg (by omega), if_neg (by omega), if_neg (by omega), if_neg (by omega), if_pos (by simp)]
    · simp only [upd_eq]; rw [if_pos (by simp)]
    · simp only [upd_eq]
      rw [if_neg (by omega), if_neg (by omega), if_neg (by omega), if_neg (by omega), if_neg (by omega), if_neg (by omega), if_pos (by simp)]
      exact i7
    · simp only [upd_eq]
      simp only [if_true]
      rw [n8, nI_1]
      exact ⟨nI_pos' (by omega), nI_le (a := nat (c 8) + 1) (b := 60) (by omega) (by omega)⟩
    · have := sc k hk
      simp only [upd_eq] at this ⊢
      rw [this, if_neg (show ¬ 77 + k = 8 by omega), if_neg (show ¬ 77 + k = 86 + 4 * nat (c 8) by omega), if_neg (show ¬ 77 + k = 85 + 4 * nat (c 8) by omega), if_neg (show ¬ 77 + k = 84 + 4 * nat (c 8) by omega), if_neg (show ¬ 77 + k = 83 + 4 * nat (c 8) by omega)]
    · have hk' : k < nat (c 8) + 1 := by
        have e8 : upd (upd (upd (upd (upd (upd (upd c 7 (iMin 20 (c 7 + 1))) (77 + s) (c (77 + s) + P)) (83 + 4 * nat (c 8)) X) (84 + 4 * nat (c 8)) Y) (85 + 4 * nat (c 8)) (nI s)) (86 + 4 * nat (c 8)) (nI p)) 8 (c 8 + 1) 8 = c 8 + 1 := if_pos rfl
        rw [e8, e1] at hk; exact hk
      simp only [upd_eq]
      by_cases e : k = nat (c 8)
      · subst e
        simp (disch := omega) only [if_true, if_neg (show ¬ 83 + 4 * nat (c 8) = 8 by omega), if_neg (show ¬ 84 + 4 * nat (c 8) = 8 by omega), if_neg (show ¬ 85 + 4 * nat (c 8) = 8 by omega), if_neg (show ¬ 86 + 4 * nat (c 8) = 8 by omega),
          if_neg (show ¬ 83 + 4 * nat (c 8) = 86 + 4 * nat (c 8) by omega), if_neg (show ¬ 83 + 4 * nat (c 8) = 85 + 4 * nat (c 8) by omega), if_neg (show ¬ 83 + 4 * nat (c 8) = 84 + 4 * nat (c 8) by omega),
          if_neg (show ¬ 84 + 4 * nat (c 8) = 86 + 4 * nat (c 8) by omega), if_neg (show ¬ 84 + 4 * nat (c 8) = 85 + 4 * nat (c 8) by omega), if_neg (show ¬ 85 + 4 * nat (c 8) = 86 + 4 * nat (c 8) by omega)]
        exact ⟨⟨trivial, trivial, trivial, trivial⟩, within_iff.mp hww.1, within_iff.mp hww.2⟩
      · have hk2 : k < nat (c 8) := by omega
        have g := h6 k hk2
        simp only [if_neg e]
        simp only [if_neg (show ¬ 83 + 4 * k = 8 by omega), if_neg (show ¬ 84 + 4 * k = 8 by omega), if_neg (show ¬ 85 + 4 * k = 8 by omega), if_neg (show ¬ 86 + 4 * k = 8 by omega),
          if_neg (show ¬ 83 + 4 * k = 86 + 4 * nat (c 8) by omega), if_neg (show ¬ 83 + 4 * k = 85 + 4 * nat (c 8) by omega), if_neg (show ¬ 83 + 4 * k = 84 + 4 * nat (c 8) by omega), if_neg (show ¬ 83 + 4 * k = 83 + 4 * nat (c 8) by omega),
          if_neg (show ¬ 84 + 4 * k = 86 + 4 * nat (c 8) by omega), if_neg (show ¬ 84 + 4 * k = 85 + 4 * nat (c 8) by omega), if_neg (show ¬ 84 + 4 * k = 84 + 4 * nat (c 8) by omega), if_neg (show ¬ 84 + 4 * k = 83 + 4 * nat (c 8) by omega),
          if_neg (show ¬ 85 + 4 * k = 86 + 4 * nat (c 8) by omega), if_neg (show ¬ 85 + 4 * k = 85 + 4 * nat (c 8) by omega), if_neg (show ¬ 85 + 4 * k = 84 + 4 * nat (c 8) by omega), if_neg (show ¬ 85 + 4 * k = 83 + 4 * nat (c 8) by omega),
          if_neg (show ¬ 86 + 4 * k = 86 + 4 * nat (c 8) by omega), if_neg (show ¬ 86 + 4 * k = 85 + 4 * nat (c 8) by omega), if_neg (show ¬ 86 + 4 * k = 84 + 4 * nat (c 8) by omega), if_neg (show ¬ 86 + 4 * k = 83 + 4 * nat (c 8) by omega),
          if_neg (show ¬ 83 + 4 * k = 77 + s by omega), if_neg (show ¬ 84 + 4 * k = 77 + s by omega), if_neg (show ¬ 85 + 4 * k = 77 + s by omega), if_neg (show ¬ 86 + 4 * k = 77 + s by omega),
          if_neg (show ¬ 83 + 4 * k = 7 by omega), if_neg (show ¬ 84 + 4 * k = 7 by omega), if_neg (show ¬ 85 + 4 * k = 7 by omega), if_neg (show ¬ 86 + 4 * k = 7 by omega)]
        exact g
  · unfold strT strC strC0
    rw [if_neg hw, if_neg hw, h1, h2]
    have e8 : upd (upd c 7 (iMin 20 (c 7 + 1))) (77 + s) (c (77 + s) + P) 8 = c 8 := by simp only [upd_eq]; rw [if_neg (by omega), if_neg (by omega)]
    have e7 : upd (upd c 7 (iMin 20 (c 7 + 1))) (77 + s) (c (77 + s) + P) 7 = iMin 20 (c 7 + 1) := by simp only [upd_eq]; rw [if_neg (by omega), if_pos (by simp)]
    have eh : ∀ j, 83 ≤ j → upd (upd c 7 (iMin 20 (c 7 + 1))) (77 + s) (c (77 + s) + P) j = c j := fun j hj => by simp only [upd_eq]; rw [if_neg (by omega), if_neg (by omega)]
    refine ⟨⟨e7.symm, e8.symm⟩, ⟨by rw [e7]; exact i7, by rw [e8]; exact h4⟩, fun k hk => sc k hk, fun k hk => ?_⟩
    rw [e8] at hk
    rw [eh _ (by omega), eh _ (by omega), eh _ (by omega), eh _ (by omega)]
    exact h6 k hk
end SHT
