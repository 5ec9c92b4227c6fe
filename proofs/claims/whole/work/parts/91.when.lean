/-! PURE. play, wins: whether a when holds. -/
section PWH
variable {σ τ : Mem} {t u y r w p : Nat} {c : Nat → Int32}
theorem ixk (w k : Nat) : nI w + nI k = nI (w + k) := nI_add w k
theorem pl_so {v : Int32} (hp : p < 60) (hw : w < 2900) (e3 : gI σ 5 r 3 p = gI τ 12 0 5 (w + 7)) (e4 : gI σ 5 r 4 p = gI τ 12 0 5 (w + 2)) :
    ∃ b, F4_holds_p56 σ r (nI p) v = some b ∧ F12_isSo_p55 τ (nI w) v = some b := by
  unfold F4_holds_p56 F12_isSo_p55
  rw [show (7 : Int32) = nI 7 from rfl, show (2 : Int32) = nI 2 from rfl, ixk, ixk]
  have c3 : ald 60 (gI σ 5 r 3) (nI p) = some (gI σ 5 r 3 p) := ald_nI (by omega) (by omega)
  have c4 : ald 60 (gI σ 5 r 4) (nI p) = some (gI σ 5 r 4 p) := ald_nI (by omega) (by omega)
  have m7 : ald 3000 (gI τ 12 0 5) (nI (w + 7)) = some (gI τ 12 0 5 (w + 7)) := ald_nI (by omega) (by omega)
  have m2 : ald 3000 (gI τ 12 0 5) (nI (w + 2)) = some (gI τ 12 0 5 (w + 2)) := ald_nI (by omega) (by omega)
  rw [c3, c4, m7, m2, e3, e4]
  simp only [Option.bind_some]
  by_cases h0 : gI τ 12 0 5 (w + 7) = 60
  · rw [if_pos h0]
    by_cases h1 : gI τ 12 0 5 (w + 2) ≤ v
    · rw [if_pos h1]; exact ⟨_, rfl, rfl⟩
    · rw [if_neg h1]; exact ⟨_, rfl, rfl⟩
  · rw [if_neg h0]
    by_cases h2 : gI τ 12 0 5 (w + 7) = 62
    · rw [if_pos h2]
      by_cases h1 : v ≤ gI τ 12 0 5 (w + 2)
      · rw [if_pos h1]; exact ⟨_, rfl, rfl⟩
      · rw [if_neg h1]; exact ⟨_, rfl, rfl⟩
    · rw [if_neg h2]
      by_cases h1 : v = gI τ 12 0 5 (w + 2)
      · rw [if_pos h1]; exact ⟨_, rfl, rfl⟩
      · rw [if_neg h1]; exact ⟨_, rfl, rfl⟩
theorem pl_holds (h : PlR t u y c σ τ) (hp : p < 60) (hw : w < 2900) (e3 : gI σ 5 r 3 p = gI τ 12 0 5 (w + 7)) (e4 : gI σ 5 r 4 p = gI τ 12 0 5 (w + 2))
    (k : (gI τ 12 0 5 (w + 6) = 0 ∧ ∃ i, i < nat (gI τ 12 0 5 6) ∧ gI σ 5 r 2 p = nI i ∧ gI τ 12 0 5 (w + 1) = nI i) ∨ (gI τ 12 0 5 (w + 6) = 1 ∧ gI σ 5 r 2 p = -1) ∨ (gI τ 12 0 5 (w + 6) = 2 ∧ gI σ 5 r 2 p = -2)) :
    ∃ b, F4_holds σ r (nI p) y = some b ∧ F12_isSo τ (nI w) = some b := by
  obtain ⟨⟨k1, k2, k3, k4, k5⟩, -⟩ := h
  have h6 := ok_n6 k3
  have m6 : ald 3000 (gI τ 12 0 5) (nI (w + 6)) = some (gI τ 12 0 5 (w + 6)) := ald_nI (by omega) (by omega)
  have m1 : ald 3000 (gI τ 12 0 5) (nI (w + 1)) = some (gI τ 12 0 5 (w + 1)) := ald_nI (by omega) (by omega)
  have c2 : ald 60 (gI σ 5 r 2) (nI p) = some (gI σ 5 r 2 p) := ald_nI (by omega) (by omega)
  have y0 : gI σ 7 y 0 0 = gI τ 12 0 5 7 := k4.1.1
  have y1 : gI σ 7 y 0 1 = gI τ 12 0 5 8 := k4.1.2
  unfold F4_holds F12_isSo
  rw [show nI w + 6 = nI (w + 6) from nI_add w 6, m6, Option.bind_some, c2, Option.bind_some, ix1, m1, al_8, al_7, Option.bind_some, Option.bind_some, Option.bind_some]
  rcases k with ⟨k0, i, hi, e1, e2⟩ | ⟨k0, e1⟩ | ⟨k0, e1⟩
  · have c5 : ald 6 (gI σ 7 y 5) (nI i) = some (gI σ 7 y 5 i) := ald_nI (by omega) (by omega)
    have hv : F11_within (nI i) 0 5 = true := wi_ok (n := 6) (by omega) (by omega)
    have y5 : gI σ 7 y 5 i = gI τ 12 0 5 (77 + i) := k4.2.2.1 i (by omega)
    have mi : ald 3000 (gI τ 12 0 5) (77 + nI i) = some (gI τ 12 0 5 (77 + i)) := by rw [show (77 : Int32) + nI i = nI (77 + i) from nI_add 77 i]; exact ald_nI (by omega) (by omega)
    have n1 : ¬ nI i = -1 := fun e => by have := congrArg Int32.toInt e; rw [nI_int (by omega), show (-1 : Int32).toInt = -1 from rfl] at this; omega
    have n2 : ¬ nI i = -2 := fun e => by have := congrArg Int32.toInt e; rw [nI_int (by omega), show (-2 : Int32).toInt = -2 from rfl] at this; omega
    rw [k0, if_pos rfl, e1, if_neg n1, if_neg n2, if_pos hv, c5, Option.bind_some, e2, mi, Option.bind_some, y5]
    exact pl_so hp hw e3 e4
  · rw [k0, e1, if_pos (show (-1 : Int32) = -1 from rfl), if_neg (show ¬ (1 : Int32) = 0 by decide), if_pos (show (1 : Int32) = 1 from rfl), bnd_eq, y1]
    exact pl_so hp hw e3 e4
  · rw [k0, e1, if_neg (show ¬ (-2 : Int32) = -1 by decide), if_pos (show (-2 : Int32) = -2 from rfl), if_neg (show ¬ (2 : Int32) = 0 by decide), if_neg (show ¬ (2 : Int32) = 1 by decide), bnd_eq, y0]
    exact pl_so hp hw e3 e4
end PWH
