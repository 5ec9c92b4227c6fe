/-! PURE. played. -/
section PLD
variable {σC σM : Mem}
theorem st_played (h : Rel σC σM) (x1 : Int32) : Stq (F11_played σC x1) (F12_played σM x1) := by
  obtain ⟨p1, p2⟩ := h.1.2.2.2.2.2
  unfold F11_played F12_played
  rw [bnd_mS, wi_0_4]
  by_cases g1 : ¬ F11_within x1 0 4 = true
  · simp only [g1, ↓reduceIte, if_false, Bool.false_and, Bool.and_false, Bool.true_and, Bool.and_true, Bool.false_eq_true, if_true, Bool.and_self, ans_eq, ref_eq, agr_eq, den_eq, mref_eq, mno_eq, bd_some, Option.bind_some, ne_2_0, ne_5_0]
    exact ⟨_, _, _, rfl, rfl, h.no 5⟩
  replace g1 := Decidable.not_not.mp g1
  rw [if_pos g1, if_pos g1, p1]
  have q : gB (mS σM) 12 0 0 47 = gB σM 12 0 0 47 := rfl
  rw [q]
  by_cases g2 : ¬ gB σM 12 0 0 47 = true
  · simp only [g2, ↓reduceIte, if_false, Bool.false_and, Bool.and_false, Bool.true_and, Bool.and_true, Bool.false_eq_true, if_true, Bool.and_self, ans_eq, ref_eq, agr_eq, den_eq, mref_eq, mno_eq, bd_some, Option.bind_some, ne_2_0, ne_5_0]
    exact ⟨_, _, _, rfl, rfl, h.no 8⟩
  replace g2 := Decidable.not_not.mp g2
  rw [if_pos g2, if_pos g2]
  obtain ⟨a0, a1, a2, a3, a4⟩ := p2 g2
  have r12 : gI (mS σM) 12 0 12 = gI σM 12 0 12 := by simp (disch := decide) only [rI_c]
  rw [r12]
  have w := wn_int g1
  have e0 : (0 : Int32).toInt = 0 := rfl
  have e4 : (4 : Int32).toInt = 4 := rfl
  obtain ⟨k, hk, rfl⟩ := i32_ex (x := x1) 4 (by omega) (by omega)
  rw [ald_nI (by omega) (by omega), Option.bind_some]
  rcases (show k = 0 ∨ k = 1 ∨ k = 2 ∨ k = 3 ∨ k = 4 by omega) with rfl | rfl | rfl | rfl | rfl
  · rw [if_pos (by decide), ans_eq, bd_some, a0]
    exact ⟨_, _, _, rfl, rfl, h.ok⟩
  · rw [if_neg (by decide), if_pos (by decide), ans_eq, bd_some, a1]
    exact ⟨_, _, _, rfl, rfl, h.ok⟩
  · rw [if_neg (by decide), if_neg (by decide), if_pos (by decide), ans_eq, bd_some, a2]
    exact ⟨_, _, _, rfl, rfl, h.ok⟩
  · rw [if_neg (by decide), if_neg (by decide), if_neg (by decide), if_pos (by decide), ans_eq, bd_some, a3]
    exact ⟨_, _, _, rfl, rfl, h.ok⟩
  · rw [if_neg (by decide), if_neg (by decide), if_neg (by decide), if_neg (by decide), ans_eq, bd_some, a4]
    exact ⟨_, _, _, rfl, rfl, h.ok⟩
end PLD
