/-! PURE. What a shot is, in the model's cells c. -/
theorem i32_num (n : Nat) (h : n < 2147483648) : (OfNat.ofNat n : Int32).toInt = n := nI_toInt h
/-- bounds of an int as a number -/
theorem b32 {x a b : Int32} (h : a ≤ x ∧ x ≤ b) : a.toInt ≤ x.toInt ∧ x.toInt ≤ b.toInt := ⟨i32_le.mp h.1, i32_le.mp h.2⟩
theorem m1_int : (-1 : Int32).toInt = -1 := rfl
theorem nI_z : nI 0 = (0 : Int32) := rfl
theorem i32_ex {x : Int32} (n : Nat) (h : 0 ≤ x.toInt) (h2 : x.toInt ≤ n) : ∃ k, k ≤ n ∧ x = nI k := by
  refine ⟨nat x, ?_, nI_of32 (i32_le.mpr h)⟩
  have := nat_i x; omega
theorem nat_nI {k : Nat} (h : k < 2147483648) : nat (nI k) = k := cl_nI h
def sFit (c : Nat → Int32) (p : Nat) : Int32 := c 1 - c (21 + p)
def sPace (c : Nat → Int32) (p : Nat) (puff spit : Int32) : Int32 :=
  if c (45 + p) = 1 then puff * c 0 / (c (29 + p) + sFit c p + spit) / 2 else puff * c 0 / (c (29 + p) + sFit c p + spit)
def sFate (c : Nat → Int32) (p : Nat) (puff spit : Int32) : Int32 :=
  if 0 ≤ sFit c p then (if spit < (if c (45 + p) = 1 then 3 else 8) then (if 24 ≤ sPace c p puff spit then 0 else 3) else 2) else 1
def sTime (c : Nat → Int32) (pace : Int32) : Int32 := (240 * c 2 + pace - 1) / pace
def sDrop (t : Int32) : Int32 := t * t / 64
def sAside (c : Nat → Int32) (t : Int32) : Int32 := if 0 ≤ c 3 then iAbs (c 3) * t / 8 else -(iAbs (c 3) * t / 8)
def sOff (c : Nat → Int32) (p : Nat) (t : Int32) : Int32 := if sFit c p ≤ 2 then c (37 + p) * t / 16 else 2 * (c (37 + p) * t / 16)
def sHand (c : Nat → Int32) (s : Nat) (beat : Int32) : Int32 := if beat = 0 then c (59 + s) else if beat = 1 then (c (59 + s) + 1) / 2 else if beat = 2 then iMin 1 (c (59 + s)) else 0
def sRing (c : Nat → Int32) (q : Int32) : Nat → Int32
  | 0 => -1
  | k + 1 => if c (9 + k) * c (9 + k) < q then sRing c q k else nI k
def sRingAt (c : Nat → Int32) (x y : Int32) : Int32 := sRing c (x * x + y * y) (nat (c 4))
def sPts (c : Nat → Int32) (x y : Int32) : Int32 := if sRingAt c x y = -1 then 0 else c (15 + nat (sRingAt c x y))
/-- the tent, its length and names aside -/
def TentT (ti : VI) (c : Nat → Int32) : Prop :=
  (ti 0 1 = c 1 ∧ ti 0 2 = c 2 ∧ ti 0 3 = c 3 ∧ ti 0 4 = c 4 ∧ ti 0 7 = c 5 ∧ ti 0 13 = c 6) ∧
  (∀ k, k < nat (c 4) → ti 1 k = c (9 + k) ∧ ti 2 k = c (15 + k)) ∧
  (∀ k, k < nat (c 5) → ti 4 k = c (21 + k) ∧ ti 5 k = c (29 + k) ∧ ti 6 k = c (37 + k) ∧ ti 7 k = c (45 + k)) ∧
  (∀ k, k < nat (c 6) → ti 9 k = c (53 + k) ∧ ti 10 k = c (59 + k) ∧ ti 11 k = c (65 + k) ∧ ti 12 k = c (71 + k))
theorem TentR.T {ti : VI} {tl : VL} {c : Nat → Int32} {w : Nat → Int64} (h : TentR ti tl c w) : TentT ti c := by
  obtain ⟨h1, h2, h3, h4, h5, h6, h7, h8, h9, h10⟩ := h
  exact ⟨⟨h2, h3, h4, h5, h6, h7⟩, h8, fun k hk => (h9 k hk).2, fun k hk => (h10 k hk).2⟩
section SPEC
variable {c : Nat → Int32} {p s : Nat} {puff spit : Int32}
theorem ok_n4 (o : TentOk c) : nat (c 4) ≤ 6 := by
  obtain ⟨-, -, -, -, h, -⟩ := o
  have := nat_i (c 4); have := b32 h; have : (6 : Int32).toInt = 6 := rfl; omega
theorem ok_n5 (o : TentOk c) : nat (c 5) ≤ 8 := by
  obtain ⟨-, -, -, -, -, h, -⟩ := o
  have := nat_i (c 5); have := b32 h; have : (8 : Int32).toInt = 8 := rfl; omega
theorem ok_n6 (o : TentOk c) : nat (c 6) ≤ 6 := by
  obtain ⟨-, -, -, -, -, -, h, -⟩ := o
  have := nat_i (c 6); have := b32 h; have : (6 : Int32).toInt = 6 := rfl; omega
theorem ok_i4 (o : TentOk c) : c 4 = nI (nat (c 4)) := by obtain ⟨-, -, -, -, h, -⟩ := o; exact nI_of32 h.1
theorem ok_i5 (o : TentOk c) : c 5 = nI (nat (c 5)) := by obtain ⟨-, -, -, -, -, h, -⟩ := o; exact nI_of32 h.1
theorem ok_i6 (o : TentOk c) : c 6 = nI (nat (c 6)) := by obtain ⟨-, -, -, -, -, -, h, -⟩ := o; exact nI_of32 h.1
/-- numbers of a pea -/
theorem ok_pea (o : TentOk c) (hp : p < nat (c 5)) : (1 ≤ (c (21 + p)).toInt ∧ (c (21 + p)).toInt ≤ 12) ∧ (1 ≤ (c (29 + p)).toInt ∧ (c (29 + p)).toInt ≤ 20) ∧ (0 ≤ (c (37 + p)).toInt ∧ (c (37 + p)).toInt ≤ 4) ∧ (c (45 + p) = 0 ∨ c (45 + p) = 1) := by
  obtain ⟨-, -, -, -, -, -, -, -, -, h, -⟩ := o
  obtain ⟨h1, h2, h3, h4⟩ := h p hp
  exact ⟨b32 h1, b32 h2, b32 h3, h4⟩
theorem ok_sh (o : TentOk c) (hs : s < nat (c 6)) : (1 ≤ (c (53 + s)).toInt ∧ (c (53 + s)).toInt ≤ 40) ∧ (0 ≤ (c (59 + s)).toInt ∧ (c (59 + s)).toInt ≤ 6) ∧ (0 ≤ (c (65 + s)).toInt ∧ (c (65 + s)).toInt ≤ 9) ∧ (-9 ≤ (c (71 + s)).toInt ∧ (c (71 + s)).toInt ≤ 9) := by
  obtain ⟨-, -, -, -, -, -, -, -, -, -, h⟩ := o
  obtain ⟨h1, h2, h3, h4⟩ := h s hs
  exact ⟨b32 h1, b32 h2, b32 h3, b32 h4⟩
theorem ok_top (o : TentOk c) : (12 ≤ (c 0).toInt ∧ (c 0).toInt ≤ 48) ∧ (3 ≤ (c 1).toInt ∧ (c 1).toInt ≤ 12) ∧ (4 ≤ (c 2).toInt ∧ (c 2).toInt ≤ 20) ∧ (-9 ≤ (c 3).toInt ∧ (c 3).toInt ≤ 9) := by
  obtain ⟨h1, h2, h3, h4, -⟩ := o
  exact ⟨b32 h1, b32 h2, b32 h3, b32 h4⟩
theorem sFit_int (o : TentOk c) (hp : p < nat (c 5)) : (sFit c p).toInt = (c 1).toInt - (c (21 + p)).toInt := by
  have h1 := ok_pea o hp; have h2 := ok_top o
  exact i32_sub (by omega) (by omega)
theorem den_int (o : TentOk c) (hp : p < nat (c 5)) (h0 : 0 ≤ (sFit c p).toInt) (hs : 0 ≤ spit.toInt ∧ spit.toInt ≤ 20) :
    (c (29 + p) + sFit c p + spit).toInt = (c (29 + p)).toInt + (sFit c p).toInt + spit.toInt ∧ 1 ≤ (c (29 + p) + sFit c p + spit).toInt ∧ (c (29 + p) + sFit c p + spit).toInt ≤ 60 := by
  have h1 := ok_pea o hp; have h2 := ok_top o; have h3 := sFit_int o hp
  have e1 : (c (29 + p) + sFit c p).toInt = (c (29 + p)).toInt + (sFit c p).toInt := i32_add (by omega) (by omega)
  have e2 : (c (29 + p) + sFit c p + spit).toInt = (c (29 + p)).toInt + (sFit c p).toInt + spit.toInt := by rw [i32_add (by omega) (by omega), e1]
  omega
/-- a pace is a number from 0 to 1920 -/
theorem sPace_int (o : TentOk c) (hp : p < nat (c 5)) (h0 : 0 ≤ (sFit c p).toInt) (hs : 0 ≤ spit.toInt ∧ spit.toInt ≤ 20) (hf : 1 ≤ puff.toInt ∧ puff.toInt ≤ 40) : 0 ≤ (sPace c p puff spit).toInt ∧ (sPace c p puff spit).toInt ≤ 1920 := by
  have h2 := ok_top o
  obtain ⟨d1, d2, d3⟩ := den_int o hp h0 hs
  have m1 : 0 ≤ puff.toInt * (c 0).toInt := Int.mul_nonneg (by omega) (by omega)
  have m2 : puff.toInt * (c 0).toInt ≤ 40 * 48 := Int.mul_le_mul hf.2 h2.1.2 (by omega) (by omega)
  have m3 : (puff * c 0).toInt = puff.toInt * (c 0).toInt := i32_mul (by omega) (by omega)
  have q1 : (puff * c 0 / (c (29 + p) + sFit c p + spit)).toInt = puff.toInt * (c 0).toInt / (c (29 + p) + sFit c p + spit).toInt := by
    rw [i32_div (by omega) (by omega), m3, Int.tdiv_eq_ediv_of_nonneg m1]
  have q2 := Int.ediv_nonneg m1 (show 0 ≤ (c (29 + p) + sFit c p + spit).toInt by omega)
  have q3 := Int.ediv_le_self (c (29 + p) + sFit c p + spit).toInt m1
  unfold sPace
  by_cases hw : c (45 + p) = 1
  · rw [if_pos hw, i32_div (by omega) (by decide), Int.tdiv_eq_ediv_of_nonneg (by omega), q1]
    have : (2 : Int32).toInt = 2 := rfl
    rw [this]; omega
  · rw [if_neg hw]; omega
theorem sTime_int (o : TentOk c) {pc : Int32} (h : 24 ≤ pc.toInt ∧ pc.toInt ≤ 1920) : 0 ≤ (sTime c pc).toInt ∧ (sTime c pc).toInt ≤ 280 := by
  have h2 := ok_top o
  have e0 : (240 : Int32).toInt = 240 := rfl
  have e9 : (1 : Int32).toInt = 1 := rfl
  have e1 : (240 * c 2).toInt = 240 * (c 2).toInt := by rw [i32_mul] <;> rw [e0] <;> omega
  have e2 : (240 * c 2 + pc).toInt = 240 * (c 2).toInt + pc.toInt := by rw [i32_add] <;> rw [e1] <;> omega
  have e3 : (240 * c 2 + pc - 1).toInt = 240 * (c 2).toInt + pc.toInt - 1 := by rw [i32_sub] <;> rw [e2, e9] <;> omega
  have e4 : (sTime c pc).toInt = (240 * (c 2).toInt + pc.toInt - 1) / pc.toInt := by
    rw [sTime, i32_div (by omega) (by omega), e3, Int.tdiv_eq_ediv_of_nonneg (by omega)]
  have e5 := Int.ediv_nonneg (show 0 ≤ 240 * (c 2).toInt + pc.toInt - 1 by omega) (show 0 ≤ pc.toInt by omega)
  have e6 : (240 * (c 2).toInt + pc.toInt - 1) / pc.toInt < 281 := Int.ediv_lt_of_lt_mul (by omega) (by omega)
  omega
theorem sDrop_int {t : Int32} (h : 0 ≤ t.toInt ∧ t.toInt ≤ 280) : 0 ≤ (sDrop t).toInt ∧ (sDrop t).toInt ≤ 1225 := by
  have m1 : 0 ≤ t.toInt * t.toInt := Int.mul_nonneg h.1 h.1
  have m2 : t.toInt * t.toInt ≤ 280 * 280 := Int.mul_le_mul h.2 h.2 h.1 (by omega)
  have m3 : (t * t).toInt = t.toInt * t.toInt := i32_mul (by omega) (by omega)
  have e0 : (64 : Int32).toInt = 64 := rfl
  have e1 : (sDrop t).toInt = t.toInt * t.toInt / 64 := by rw [sDrop, i32_div (by omega) (by decide), m3, Int.tdiv_eq_ediv_of_nonneg m1, e0]
  omega
theorem iAbs_int {x : Int32} (h : -2147483648 < x.toInt) : (iAbs x).toInt = x.toInt.natAbs := by
  unfold iAbs
  have e0 : (0 : Int32).toInt = 0 := rfl
  by_cases h0 : 0 ≤ x
  · rw [if_pos h0]; have := i32_le.mp h0; omega
  · rw [if_neg h0]
    have h1 : ¬ (0 : Int32).toInt ≤ x.toInt := fun e => h0 (i32_le.mpr e)
    rw [i32_sub] <;> rw [e0] <;> omega
theorem sAside_int (o : TentOk c) {t : Int32} (h : 0 ≤ t.toInt ∧ t.toInt ≤ 280) : -315 ≤ (sAside c t).toInt ∧ (sAside c t).toInt ≤ 315 := by
  have h2 := ok_top o
  have a1 := iAbs_int (x := c 3) (by omega)
  have m1 : 0 ≤ (iAbs (c 3)).toInt * t.toInt := Int.mul_nonneg (by omega) h.1
  have m2 : (iAbs (c 3)).toInt * t.toInt ≤ 9 * 280 := Int.mul_le_mul (by omega) h.2 h.1 (by omega)
  have m3 : (iAbs (c 3) * t).toInt = (iAbs (c 3)).toInt * t.toInt := i32_mul (by omega) (by omega)
  have e0 : (8 : Int32).toInt = 8 := rfl
  have e1 : (iAbs (c 3) * t / 8).toInt = (iAbs (c 3)).toInt * t.toInt / 8 := by rw [i32_div (by omega) (by decide), m3, Int.tdiv_eq_ediv_of_nonneg m1, e0]
  unfold sAside
  by_cases h0 : 0 ≤ c 3
  · rw [if_pos h0]; omega
  · rw [if_neg h0, i32_neg (by omega)]; omega
theorem sOff_int (o : TentOk c) (hp : p < nat (c 5)) {t : Int32} (h : 0 ≤ t.toInt ∧ t.toInt ≤ 280) : 0 ≤ (sOff c p t).toInt ∧ (sOff c p t).toInt ≤ 140 := by
  have h1 := ok_pea o hp
  have m1 : 0 ≤ (c (37 + p)).toInt * t.toInt := Int.mul_nonneg (by omega) h.1
  have m2 : (c (37 + p)).toInt * t.toInt ≤ 4 * 280 := Int.mul_le_mul (by omega) h.2 h.1 (by omega)
  have m3 : (c (37 + p) * t).toInt = (c (37 + p)).toInt * t.toInt := i32_mul (by omega) (by omega)
  have e0 : (16 : Int32).toInt = 16 := rfl
  have e9 : (2 : Int32).toInt = 2 := rfl
  have e1 : (c (37 + p) * t / 16).toInt = (c (37 + p)).toInt * t.toInt / 16 := by rw [i32_div (by omega) (by decide), m3, Int.tdiv_eq_ediv_of_nonneg m1, e0]
  unfold sOff
  by_cases h0 : sFit c p ≤ 2
  · rw [if_pos h0]; omega
  · rw [if_neg h0, i32_mul] <;> rw [e9] <;> omega
theorem sHand_int (o : TentOk c) (hs : s < nat (c 6)) (beat : Int32) : 0 ≤ (sHand c s beat).toInt ∧ (sHand c s beat).toInt ≤ 6 := by
  have h1 := ok_sh o hs
  have e1 : (1 : Int32).toInt = 1 := rfl
  have e2 : (2 : Int32).toInt = 2 := rfl
  have e0 : (0 : Int32).toInt = 0 := rfl
  unfold sHand
  split
  · omega
  split
  · have a1 : (c (59 + s) + 1).toInt = (c (59 + s)).toInt + 1 := by rw [i32_add] <;> rw [e1] <;> omega
    rw [i32_div (by omega) (by decide), a1, e2, Int.tdiv_eq_ediv_of_nonneg (by omega)]; omega
  split
  · unfold iMin; split <;> omega
  · omega
/-- on the beat 2 a hand shakes by 1 at most -/
theorem sHand_2 (o : TentOk c) (hs : s < nat (c 6)) : 0 ≤ (sHand c s 2).toInt ∧ (sHand c s 2).toInt ≤ 1 := by
  have h1 := ok_sh o hs
  have e1 : (1 : Int32).toInt = 1 := rfl
  have e : sHand c s 2 = iMin 1 (c (59 + s)) := rfl
  rw [e]; unfold iMin; split
  · rename_i h; have := i32_lt.mp h; omega
  · omega
theorem sRing_lt {q : Int32} : ∀ n, sRing c q n = -1 ∨ ∃ k, k < n ∧ sRing c q n = nI k := by
  intro n
  induction n with
  | zero => exact .inl rfl
  | succ n ih =>
    unfold sRing
    split
    · rcases ih with h | ⟨k, h1, h2⟩
      · exact .inl h
      · exact .inr ⟨k, by omega, h2⟩
    · exact .inr ⟨n, by omega, rfl⟩
theorem sRing_skip {q : Int32} {i : Nat} : ∀ n, i ≤ n → (∀ k, i ≤ k → k < n → c (9 + k) * c (9 + k) < q) → sRing c q n = sRing c q i := by
  intro n
  induction n with
  | zero => intro h _; rw [show i = 0 by omega]
  | succ n ih =>
    intro h hk
    by_cases e : i = n + 1
    · rw [e]
    · rw [sRing, if_pos (hk n (by omega) (by omega))]
      exact ih (by omega) (fun k h1 h2 => hk k h1 (by omega))
theorem sPts_int (o : TentOk c) (x y : Int32) : 0 ≤ (sPts c x y).toInt ∧ (sPts c x y).toInt ≤ 20 := by
  have e0 : (0 : Int32).toInt = 0 := rfl
  unfold sPts
  split
  · omega
  · rename_i h
    rcases sRing_lt (c := c) (q := x * x + y * y) (nat (c 4)) with h1 | ⟨k, h1, h2⟩
    · exact absurd h1 h
    · have hk := ok_n4 o
      rw [sRingAt, h2, nat_nI (by omega)]
      obtain ⟨-, -, -, -, -, -, -, h3, -⟩ := o
      exact ⟨by have := (b32 (h3 k h1).2).1; have : (1 : Int32).toInt = 1 := rfl; omega, (b32 (h3 k h1).2).2⟩
end SPEC
