/-! PURE. play, wins: the model's when, loop. -/
section PRX
variable {τ : Mem} {s w k N i : Nat} {rec : Mem → Int32 → Int32 → Option (Unit × Mem)}
theorem ix325 (s : Nat) : (325 : Int32) + 9 * nI s = nI (325 + 9 * s) := by
  rw [show (9 : Int32) = nI 9 from rfl, pk_mul]; exact nI_add 325 (9 * s)
theorem m_when {b : Bool} (hk : gI τ 12 0 0 50 = nI k) (k3 : k < 300) (hs : s < 40) (e7 : gI τ 12 0 5 (325 + 9 * s) = 7) (so : F12_isSo (sI τ 12 0 0 50 (nI (k + 1))) (nI (325 + 9 * s)) = some b) :
    O12_doOne rec τ (nI s) = if b = true then (bd (rec (sI τ 12 0 0 50 (nI (k + 1))) (nI (s + 1)) (gI τ 12 0 5 (325 + 9 * s + 8))) fun _ s_12 => some ((), s_12)) else some ((), sI τ 12 0 0 50 (nI (k + 1))) := by
  have wc : gI (sI τ 12 0 0 50 (nI (k + 1))) 12 0 5 = gI τ 12 0 5 := rI_c (by decide)
  unfold O12_doOne
  rw [hk, if_neg (show ¬ nI k = (300 : Int32) from fun e => by have := (nI_eq (a := k) (b := 300) (by omega) (by omega)).mp e; omega), bnd_eq, bnd_eq, nI_1, ix325, wc, ald_nI (by omega) (by omega), Option.bind_some, e7, if_pos (show (7 : Int32) ≤ 7 by decide), if_pos rfl, so, Option.bind_some]
  cases b with
  | true =>
    rw [if_pos rfl, if_pos rfl, show nI (325 + 9 * s) + 8 = nI (325 + 9 * s + 8) from nI_add _ 8, ald_nI (by omega) (by omega), Option.bind_some, nI_1]
  | false =>
    rw [if_neg (by decide), if_neg (by decide)]
    unfold F12_doOne_p111
    rw [if_neg (show ¬ (7 : Int32) = 8 by decide), if_pos (show (7 : Int32) ≤ 8 by decide)]
theorem m_loop (hk : gI τ 12 0 0 50 = nI k) (k3 : k < 300) (hs : s < 40) (e8 : gI τ 12 0 5 (325 + 9 * s) = 8) :
    O12_doOne rec τ (nI s) = bd (F12_doOne_L120 rec (nI s) (nI (325 + 9 * s)) fuelK (sI τ 12 0 0 50 (nI (k + 1))) 0) fun _ s_9 => some ((), s_9) := by
  have wc : gI (sI τ 12 0 0 50 (nI (k + 1))) 12 0 5 = gI τ 12 0 5 := rI_c (by decide)
  unfold O12_doOne
  rw [hk, if_neg (show ¬ nI k = (300 : Int32) from fun e => by have := (nI_eq (a := k) (b := 300) (by omega) (by omega)).mp e; omega), bnd_eq, bnd_eq, nI_1, ix325, wc, ald_nI (by omega) (by omega), Option.bind_some, e8, if_pos (show (7 : Int32) ≤ 8 by decide), if_neg (show ¬ (8 : Int32) = 7 by decide)]
  unfold F12_doOne_p111
  rw [if_pos rfl]
theorem m_turn (hw : w < 2900) (e1 : gI τ 12 0 5 (w + 1) = nI N) (hN : N < 1000) (hi : i < N) (h48 : gB τ 12 0 0 48 = false) (n : Nat) :
    F12_doOne_L120 rec (nI s) (nI w) (n + 1) τ (nI i) = bd (rec τ (nI (s + 1)) (gI τ 12 0 5 (w + 8))) fun _ s_7 => F12_doOne_L120 rec (nI s) (nI w) n s_7 (nI (i + 1)) := by
  simp only [F12_doOne_L120.eq_2]
  rw [nI_1, ald_nI (by omega) (by omega), Option.bind_some, e1, if_neg (nI_ge (by omega) (by omega)), h48, if_neg (by decide), show nI w + 8 = nI (w + 8) from nI_add _ 8, ald_nI (by omega) (by omega), Option.bind_some, nI_1, nI_1]
theorem m_turn_end (hw : w < 2900) (e1 : gI τ 12 0 5 (w + 1) = nI N) (hN : N < 1000) (n : Nat) : F12_doOne_L120 rec (nI s) (nI w) (n + 1) τ (nI N) = some ((), τ) := by
  simp only [F12_doOne_L120.eq_2]
  rw [nI_1, ald_nI (by omega) (by omega), Option.bind_some, e1, if_pos (Int32.le_refl _)]
theorem m_turn_halt (hw : w < 2900) (e1 : gI τ 12 0 5 (w + 1) = nI N) (hN : N < 1000) (hi : i < N) (h48 : gB τ 12 0 0 48 = true) (n : Nat) : F12_doOne_L120 rec (nI s) (nI w) (n + 1) τ (nI i) = some ((), τ) := by
  simp only [F12_doOne_L120.eq_2]
  rw [nI_1, ald_nI (by omega) (by omega), Option.bind_some, e1, if_neg (nI_ge (by omega) (by omega)), h48, if_pos rfl]
/-- the model's steps one after the other -/
theorem m_all {rc : Mem → Int32 → Option (Unit × Mem)} {τ1 : Mem} {e e1 : Nat} (hs : s < e) (he : e < 1000) (h48 : gB τ 12 0 0 48 = false) (o : rc τ (nI s) = some ((), τ1)) (hs4 : s < 40) (e8 : gI τ1 12 0 5 (325 + 9 * s + 8) = nI e1) (n : Nat) :
    F12_doAll_L2 rc (nI e) (n + 1) τ (nI s) = F12_doAll_L2 rc (nI e) n τ1 (nI e1) := by
  simp only [F12_doAll_L2.eq_2]
  rw [if_neg (nI_ge (by omega) (by omega)), h48, if_neg (by decide), o, bd_some, ix325, show nI (325 + 9 * s) + 8 = nI (325 + 9 * s + 8) from nI_add _ 8, ald_nI (by omega) (by omega), Option.bind_some, e8]
theorem m_all_end {rc : Mem → Int32 → Option (Unit × Mem)} {e : Nat} (n : Nat) : F12_doAll_L2 rc (nI e) (n + 1) τ (nI e) = some ((), τ) := by
  simp only [F12_doAll_L2.eq_2]
  rw [if_pos (Int32.le_refl _)]
theorem m_all_halt {rc : Mem → Int32 → Option (Unit × Mem)} {e : Nat} (x : Int32) (h48 : gB τ 12 0 0 48 = true) (n : Nat) : F12_doAll_L2 rc (nI e) (n + 1) τ x = some ((), τ) := by
  simp only [F12_doAll_L2.eq_2]
  by_cases h : nI e ≤ x
  · rw [if_pos h]
  · rw [if_neg h, h48, if_pos rfl]
end PRX
