/-! PURE. tent, round: the tokens. -/
section TKA
theorem b256 : ∀ k : Fin 256, (Int32.ofInt ((k.val : Int) - 128) &&& 255) = (if k.val < 128 then Int32.ofInt ((k.val : Int) + 128) else Int32.ofInt ((k.val : Int) - 128)) := by decide +kernel
/-- a byte with and without its sign -/
theorem b255 {v : Int32} (h1 : -128 ≤ v.toInt) (h2 : v.toInt ≤ 127) : (0 ≤ v.toInt ∧ v &&& 255 = v) ∨ (v.toInt < 0 ∧ (v &&& 255).toInt = v.toInt + 256) := by
  have hk : (v.toInt + 128).toNat < 256 := by omega
  have h := b256 ⟨(v.toInt + 128).toNat, hk⟩
  have e : ((v.toInt + 128).toNat : Int) = v.toInt + 128 := by omega
  simp only [e] at h
  have ev : Int32.ofInt (v.toInt + 128 - 128) = v := by rw [show v.toInt + 128 - 128 = v.toInt by omega, Int32.ofInt_toInt]
  rw [ev] at h
  by_cases c : v.toInt < 0
  · right
    rw [if_pos (by omega)] at h
    refine ⟨c, ?_⟩
    rw [h, Int32.toInt_ofInt, bm32 (by omega) (by omega)]; omega
  · left
    rw [if_neg (by omega)] at h
    exact ⟨by omega, h⟩
theorem lt_c {v : Int32} {n : Int} {c : Int32} (hc : c.toInt = n) : (v < c) ↔ v.toInt < n := by rw [i32_lt, hc]
section BYT
variable {v : Int32}
theorem by_letter (h1 : -128 ≤ v.toInt) (h2 : v.toInt ≤ 127) : F12_isLetter (v &&& 255) = F8_isLetter v := by
  unfold F12_isLetter F8_isLetter
  rcases b255 h1 h2 with ⟨-, h⟩ | ⟨h3, h⟩
  · rw [h]
  · have a : ¬ (v &&& 255) < 97 := by rw [i32_lt, h]; show ¬ _ < (97 : Int); omega
    have b : (122 : Int32) < v &&& 255 := by rw [i32_lt, h]; show (122 : Int) < _; omega
    have c : v < 97 := by rw [i32_lt]; show _ < (97 : Int); omega
    rw [if_neg a, if_pos b, if_pos c]
theorem by_digit (h1 : -128 ≤ v.toInt) (h2 : v.toInt ≤ 127) : F12_isDigit (v &&& 255) = F8_isDigit v := by
  unfold F12_isDigit F8_isDigit
  rcases b255 h1 h2 with ⟨-, h⟩ | ⟨h3, h⟩
  · rw [h]
  · have a : ¬ (v &&& 255) < 48 := by rw [i32_lt, h]; show ¬ _ < (48 : Int); omega
    have b : (57 : Int32) < v &&& 255 := by rw [i32_lt, h]; show (57 : Int) < _; omega
    have c : v < 48 := by rw [i32_lt]; show _ < (48 : Int); omega
    rw [if_neg a, if_pos b, if_pos c]
theorem by_eq (h1 : -128 ≤ v.toInt) (h2 : v.toInt ≤ 127) {w : Int32} (w1 : 0 ≤ w.toInt) (w2 : w.toInt ≤ 127) : (v &&& 255 = w) ↔ v = w := by
  rcases b255 h1 h2 with ⟨-, h⟩ | ⟨h3, h⟩
  · rw [h]
  · constructor
    · intro e; rw [e] at h; omega
    · intro e; rw [e] at h3; omega
theorem by_sign (h1 : -128 ≤ v.toInt) (h2 : v.toInt ≤ 127) : F12_isSignByte (v &&& 255) = F8_isSign v := by
  unfold F12_isSignByte F8_isSign
  simp only [by_eq h1 h2 (w := 59) (by decide) (by decide), by_eq h1 h2 (w := 60) (by decide) (by decide), by_eq h1 h2 (w := 61) (by decide) (by decide), by_eq h1 h2 (w := 62) (by decide) (by decide)]
theorem letter_int (h : F8_isLetter v = true) : 97 ≤ v.toInt ∧ v.toInt ≤ 122 := by
  unfold F8_isLetter at h
  have e1 : (97 : Int32).toInt = 97 := rfl
  have e2 : (122 : Int32).toInt = 122 := rfl
  by_cases a : v < 97
  · rw [if_pos a] at h; exact absurd h (by decide)
  · rw [if_neg a] at h
    by_cases b : 122 < v
    · rw [if_pos b] at h; exact absurd h (by decide)
    · rw [i32_lt] at a b; omega
end BYT
/-- the words' places -/
def wfind (W : Int64) : Nat → Int32
  | 0 => -1
  | n + 1 => if wordsN.getD n 0 = W then nI n else wfind W n
def wix (τ : Mem) : Int32 := if gI τ 12 0 0 14 = 1 then wfind (gL τ 12 0 0 19) 30 else -1
theorem wfind_w : ∀ i : Fin 30, wfind (wordsN.getD i.val 0) 30 = nI i.val := by decide +kernel
theorem wfind_inv {W : Int64} {i : Nat} (hi : i < 30) : ∀ n, n ≤ 30 → wfind W n = nI i → wordsN.getD i 0 = W := by
  intro n
  induction n with
  | zero =>
    intro _ h
    have : (-1 : Int32).toInt = (nI i).toInt := congrArg Int32.toInt h
    rw [nI_int (by omega), show (-1 : Int32).toInt = -1 from rfl] at this
    omega
  | succ n ih =>
    intro hn h
    unfold wfind at h
    by_cases e : wordsN.getD n 0 = W
    · rw [if_pos e] at h
      have := (nI_eq (by omega) (by omega)).mp h
      subst this; exact e
    · rw [if_neg e] at h; exact ih (by omega) h
theorem wfind_0 : wfind 0 30 = -1 := by decide +kernel
theorem wfind_m : wfind (-1) 30 = -1 := by decide +kernel
theorem wfind_is {W : Int64} : ∀ n, n ≤ 30 → wfind W n = -1 ∨ ∃ i, i < 30 ∧ wfind W n = nI i := by
  intro n
  induction n with
  | zero => intro _; exact .inl rfl
  | succ n ih =>
    intro hn
    unfold wfind
    by_cases e : wordsN.getD n 0 = W
    · rw [if_pos e]; exact .inr ⟨n, by omega, rfl⟩
    · rw [if_neg e]; exact ih (by omega)
theorem m1_nI {i : Nat} (h : i < 1000) : ¬ (-1 : Int32) = nI i := fun e => by
  have := congrArg Int32.toInt e
  rw [nI_int (by omega), show (-1 : Int32).toInt = -1 from rfl] at this
  omega
theorem isw_g {τ : Mem} {W : Int64} (i : Nat) (hi : i < 30) (hW : wordsN.getD i 0 = W) : (F12_isWord τ W = true) ↔ wix τ = nI i := by
  unfold F12_isWord wix
  by_cases k : gI τ 12 0 0 14 = 1
  · rw [if_pos k, if_pos k]
    constructor
    · intro h
      by_cases e : gL τ 12 0 0 19 = W
      · rw [e, ← hW]; exact wfind_w ⟨i, hi⟩
      · rw [if_neg e] at h; exact absurd h (by decide)
    · intro h
      have := wfind_inv hi 30 (by omega) h
      rw [if_pos (by rw [← this, hW])]
  · rw [if_neg k, if_neg k]
    constructor
    · intro h; exact absurd h (by decide)
    · intro h; exact absurd h (m1_nI (by omega))
end TKA
section TKB
variable {τ : Mem}
theorem w_tube : (F12_isTube τ = true) = (wix τ = 0) := propext (isw_g 0 (by decide) (by decide))
theorem w_bore : (F12_isBore τ = true) = (wix τ = 1) := propext (isw_g 1 (by decide) (by decide))
theorem w_far : (F12_isFar τ = true) = (wix τ = 2) := propext (isw_g 2 (by decide) (by decide))
theorem w_wind : (F12_isWind τ = true) = (wix τ = 3) := propext (isw_g 3 (by decide) (by decide))
theorem w_left : (F12_isLeft τ = true) = (wix τ = 4) := propext (isw_g 4 (by decide) (by decide))
theorem w_ring : (F12_isRing τ = true) = (wix τ = 5) := propext (isw_g 5 (by decide) (by decide))
theorem w_worth : (F12_isWorth τ = true) = (wix τ = 6) := propext (isw_g 6 (by decide) (by decide))
theorem w_pea : (F12_isPea τ = true) = (wix τ = 7) := propext (isw_g 7 (by decide) (by decide))
theorem w_size : (F12_isSize τ = true) = (wix τ = 8) := propext (isw_g 8 (by decide) (by decide))
theorem w_weight : (F12_isWeight τ = true) = (wix τ = 9) := propext (isw_g 9 (by decide) (by decide))
theorem w_crooked : (F12_isCrooked τ = true) = (wix τ = 10) := propext (isw_g 10 (by decide) (by decide))
theorem w_wet : (F12_isWet τ = true) = (wix τ = 11) := propext (isw_g 11 (by decide) (by decide))
theorem w_shooter : (F12_isShooter τ = true) = (wix τ = 12) := propext (isw_g 12 (by decide) (by decide))
theorem w_puff : (F12_isPuff τ = true) = (wix τ = 13) := propext (isw_g 13 (by decide) (by decide))
theorem w_shake : (F12_isShake τ = true) = (wix τ = 14) := propext (isw_g 14 (by decide) (by decide))
theorem w_lean : (F12_isLean τ = true) = (wix τ = 15) := propext (isw_g 15 (by decide) (by decide))
theorem w_low : (F12_isLow τ = true) = (wix τ = 16) := propext (isw_g 16 (by decide) (by decide))
theorem w_load : (F12_isWord τ (F12_spelled 108 111 97 100 0 0) = true) = (wix τ = 17) := propext (isw_g 17 (by decide) (by decide))
theorem w_aim : (F12_isWord τ (F12_spelled 97 105 109 0 0 0) = true) = (wix τ = 18) := propext (isw_g 18 (by decide) (by decide))
theorem w_beat : (F12_isWord τ (F12_spelled 98 101 97 116 0 0) = true) = (wix τ = 19) := propext (isw_g 19 (by decide) (by decide))
theorem w_shoot : (F12_isWord τ (F12_spelled 115 104 111 111 116 0) = true) = (wix τ = 20) := propext (isw_g 20 (by decide) (by decide))
theorem w_wipe : (F12_isWord τ (F12_spelled 119 105 112 101 0 0) = true) = (wix τ = 21) := propext (isw_g 21 (by decide) (by decide))
theorem w_next : (F12_isWord τ (F12_spelled 110 101 120 116 0 0) = true) = (wix τ = 22) := propext (isw_g 22 (by decide) (by decide))
theorem w_when : (F12_isWord τ (F12_spelled 119 104 101 110 0 0) = true) = (wix τ = 23) := propext (isw_g 23 (by decide) (by decide))
theorem w_score : (F12_isWord τ (F12_spelled 115 99 111 114 101 0) = true) = (wix τ = 24) := propext (isw_g 24 (by decide) (by decide))
theorem w_holes : (F12_isWord τ (F12_spelled 104 111 108 101 115 0) = true) = (wix τ = 25) := propext (isw_g 25 (by decide) (by decide))
theorem w_spit : (F12_isWord τ (F12_spelled 115 112 105 116 0 0) = true) = (wix τ = 26) := propext (isw_g 26 (by decide) (by decide))
theorem w_loop : (F12_isWord τ (F12_spelled 108 111 111 112 0 0) = true) = (wix τ = 27) := propext (isw_g 27 (by decide) (by decide))
theorem w_end : (F12_isEnd τ = true) = (wix τ = 28) := propext (isw_g 28 (by decide) (by decide))
theorem w_stop : (F12_isWord τ (F12_spelled 115 116 111 112 0 0) = true) = (wix τ = 29) := propext (isw_g 29 (by decide) (by decide))
def stW (x : Int32) : Int32 := if x = 17 then 0 else (if x = 18 then 1 else (if x = 13 then 2 else (if x = 19 then 3 else (if x = 20 then 4 else (if x = 21 then 5 else (if x = 22 then 6 else (if x = 23 then 7 else (if x = 27 then 8 else (if x = 29 then 9 else (-1))))))))))
def teW (x : Int32) : Int32 := if x = 24 then 0 else (if x = 25 then 1 else (if x = 26 then 2 else (-1)))
def keW (x : Int32) : Bool := if x = 0 then true else (if x = 1 then true else (if x = 2 then true else (if x = 3 then true else (if x = 4 then true else (if x = 5 then true else (if x = 6 then true else (if x = 7 then true else (if x = 8 then true else (if x = 9 then true else (if x = 10 then true else (if x = 11 then true else (if x = 12 then true else (if x = 14 then true else (if x = 15 then true else (if x = 16 then true else (if 0 ≤ stW x then true else (if 0 ≤ teW x then true else (if x = 28 then true else false))))))))))))))))))
theorem m_stepWord : F12_stepWord τ = stW (wix τ) := by
  unfold F12_stepWord stW
  simp only [w_load, w_aim, w_puff, w_beat, w_shoot, w_wipe, w_next, w_when, w_loop, w_stop]
theorem m_testWord : F12_testWord τ = teW (wix τ) := by
  unfold F12_testWord teW
  simp only [w_score, w_holes, w_spit]
theorem m_isKept : F12_isKept τ = keW (wix τ) := by
  unfold F12_isKept keW
  simp only [m_stepWord, m_testWord, w_tube, w_bore, w_far, w_wind, w_left, w_ring, w_worth, w_pea, w_size, w_weight, w_crooked, w_wet, w_shooter, w_shake, w_lean, w_low, w_end]
theorem keW_i : ∀ i : Fin 30, keW (nI i.val) = true := by decide +kernel
theorem keW_m : keW (-1) = false := by decide
theorem wix_is : wix τ = -1 ∨ ∃ i, i < 30 ∧ wix τ = nI i := by
  unfold wix
  split
  · exact wfind_is 30 (by omega)
  · exact .inl rfl
end TKB
theorem bd_id {β : Type} (a : Option (β × Mem)) : (bd a fun v s => some (v, s)) = a := by
  cases a with
  | none => rfl
  | some p => rfl
theorem bd_assoc {β γ δ : Type} (a : Option (β × Mem)) (f : β → Mem → Option (γ × Mem)) (g : γ → Mem → Option (δ × Mem)) : bd (bd a f) g = bd a fun v s => bd (f v s) g := by
  cases a with
  | none => rfl
  | some p => rfl
theorem bd_u (a : Option (Unit × Mem)) : (bd a fun _ s => some ((), s)) = a := by
  cases a with
  | none => rfl
  | some p => rfl
