/-! PURE. play, wins: what is drawn. -/
section DRA
variable {σ τ : Mem} {t k n m : Nat}
/-- the number drawn after k -/
def rN (k : Nat) : Nat := (k * 2851 + 11027) % 65536
theorem rN_lt (k : Nat) : rN k < 65536 := Nat.mod_lt _ (by omega)
theorem rN_eq (hk : k < 65536) : iRem (nI k * 2851 + 11027) 65536 = nI (rN k) := by
  rw [show (2851 : Int32) = nI 2851 from rfl, show (11027 : Int32) = nI 11027 from rfl, show (65536 : Int32) = nI 65536 from rfl, pk_mul, nI_add, iRem_nI (by omega) (by omega) (by omega)]
  rfl
theorem nI_div8 (hk : k < 65536) : nI k / 8 = nI (k / 8) := by
  rw [i32_eq, i32_div (by rw [nI_int (by omega)]; omega) (by decide), nI_int (by omega), nI_int (by omega), show (8 : Int32).toInt = 8 from rfl, Int.tdiv_eq_ediv_of_nonneg (by omega)]
  omega
theorem c_draw (hr : gI σ 4 t 0 7 = nI k) (hk : k < 65536) (h0 : 0 < m) (hm : m < 1000) : F4_draw σ t (nI m) = some (nI (rN k / 8 % m), sI σ 4 t 0 7 (nI (rN k))) := by
  have h := rN_lt k
  unfold F4_draw
  rw [hr, rN_eq hk, bnd_eq, rI_s, if_neg (show ¬ nI m ≤ 0 from nI_nle (by omega) (by omega)), if_neg (show ¬ nI m = 0 from nI_ne0 (by omega) (by omega)), nI_div8 h, iRem_nI (by omega) h0 (by omega)]
theorem m_draw (hr : gI τ 12 0 0 49 = nI k) (hk : k < 65536) (h0 : 0 < m) (hm : m < 1000) : F12_draw τ (nI m) = some (nI (rN k / 8 % m), sI τ 12 0 0 49 (nI (rN k))) := by
  have h := rN_lt k
  unfold F12_draw
  rw [hr, rN_eq hk, bnd_eq, rI_s, if_neg (show ¬ nI m = 0 from nI_ne0 (by omega) (by omega)), nI_div8 h, iRem_nI (by omega) h0 (by omega)]
/-- how the hand goes, and the number after it -/
def dh (n k : Nat) : Int32 × Nat := if n = 0 then (0, k) else (nI (rN k / 8 % (2 * n + 1)) - nI n, rN k)
theorem dh_lt (hk : k < 65536) : (dh n k).2 < 65536 := by
  unfold dh
  split
  · exact hk
  · exact rN_lt k
theorem sI_self {a b c j : Nat} {v : Int32} (h : gI σ a b c j = v) : sI σ a b c j v = σ := by
  have e : upd (gI σ a b c) j v = gI σ a b c := by
    funext i
    rw [upd_eq]
    split
    · rename_i e; rw [e, h]
    · rfl
  show sIf σ a b c (upd (gI σ a b c) j v) = σ
  rw [e]; exact sIf_self
theorem c_drawHand (hr : gI σ 4 t 0 7 = nI k) (hk : k < 65536) (hn : n ≤ 6) : F4_drawHand σ t (nI n) = some ((dh n k).1, sI σ 4 t 0 7 (nI (dh n k).2)) := by
  unfold F4_drawHand dh
  by_cases e : n = 0
  · rw [if_pos e, if_pos (by rw [e]; rfl), sI_self hr]
  · rw [if_neg e, if_neg (nI_ne0 (by omega) (by omega)), show (2 : Int32) * nI n + 1 = nI (2 * n + 1) by rw [show (2 : Int32) = nI 2 from rfl, pk_mul, nI_1], c_draw hr hk (by omega) (by omega), bd_some]
theorem m_drawHand (hr : gI τ 12 0 0 49 = nI k) (hk : k < 65536) (hn : n ≤ 6) : F12_drawHand τ (nI n) = some ((dh n k).1, sI τ 12 0 0 49 (nI (dh n k).2)) := by
  unfold F12_drawHand dh
  by_cases e : n = 0
  · rw [if_pos e, if_pos (by rw [e]; rfl), sI_self hr]
  · rw [if_neg e, if_neg (nI_ne0 (by omega) (by omega)), show (2 : Int32) * nI n + 1 = nI (2 * n + 1) by rw [show (2 : Int32) = nI 2 from rfl, pk_mul, nI_1], m_draw hr hk (by omega) (by omega), bd_some]
end DRA
/-- the two games, mid-way: the class's player t on the tent u and the tally y, the model. c: the model's cells when it began -/
def PlR (t u y : Nat) (c : Nat → Int32) (σ τ : Mem) : Prop :=
  (TentT (gI σ 9 u) (gI τ 12 0 5) ∧ gI σ 9 u 0 0 = gI τ 12 0 5 0 ∧ TentOk (gI τ 12 0 5) ∧ TallyR (TY σ y) (gI τ 12 0 5) ∧ Agr c (gI τ 12 0 5)) ∧
  (gI σ 4 t 0 1 = gI τ 12 0 0 50 ∧ gI σ 4 t 0 2 = gI τ 12 0 0 51 ∧ gI σ 4 t 0 3 = gI τ 12 0 0 52 ∧ gI σ 4 t 0 4 = gI τ 12 0 0 53 ∧ gI σ 4 t 0 5 = gI τ 12 0 0 54 ∧ gI σ 4 t 0 6 = gI τ 12 0 0 55) ∧
  (∃ k, k < 65536 ∧ gI σ 4 t 0 7 = nI k ∧ gI τ 12 0 0 49 = nI k) ∧
  (∃ q, gI σ 6 (1 + t) 0 1 = nI q ∧ gI τ 12 0 0 56 = nI q ∧ (q < nat (gI τ 12 0 5 5) ∨ (q = 0 ∧ nat (gI τ 12 0 5 5) = 0))) ∧
  (gI σ 6 (1 + t) 0 4 = gI τ 12 0 0 57 ∧ gI σ 6 (1 + t) 0 5 = gI τ 12 0 0 58) ∧
  (gI σ 4 t 0 9 = gI τ 12 0 0 59 ∧ 1 ≤ gI τ 12 0 0 59 ∧ gI τ 12 0 0 59 ≤ 40) ∧ gI σ 4 t 0 8 = gI τ 12 0 0 60
/-- what a game may change: the class's player, shot and tally; the model's numbers 49 to 60, cells, the flight -/
def PlF (t y : Nat) (σ τ σ' τ' : Mem) : Prop :=
  (FC [4, 6, 7] σ σ' ∧ (∀ b, b ≠ y → TY σ' b = TY σ b) ∧ (∀ b i, (b ≠ t ∨ i = 1) → gI σ' 4 b i = gI σ 4 b i) ∧ gB σ' 4 = gB σ 4) ∧
  FM [28, 29, 30, 31, 49, 51, 52, 53, 54, 55, 56, 57, 58, 59, 60] [] [5] τ τ'
theorem PlF.z {t y : Nat} {σ τ : Mem} : PlF t y σ τ σ τ := ⟨⟨FC.z, fun _ _ => rfl, fun _ _ _ => rfl, rfl⟩, FM.z⟩
theorem PlF.t {t y : Nat} {σ τ σ1 τ1 σ2 τ2 : Mem} (h : PlF t y σ τ σ1 τ1) (k : PlF t y σ1 τ1 σ2 τ2) : PlF t y σ τ σ2 τ2 := by
  obtain ⟨⟨h1, h2, h3, h4⟩, h5⟩ := h
  obtain ⟨⟨k1, k2, k3, k4⟩, k5⟩ := k
  exact ⟨⟨h1.t k1, fun b hb => (k2 b hb).trans (h2 b hb), fun b i hb => (k3 b i hb).trans (h3 b i hb), k4.trans h4⟩, FM.t h5 k5⟩
/-- of the players only t's own numbers were written, not what is to do -/
theorem g4_ne {σ : Mem} {t b i : Nat} {f : Nat → Int32} (hb : b ≠ t ∨ i = 1) : gI (sIf σ 4 t 0 f) 4 b i = gI σ 4 b i := by
  rcases hb with h | h
  · simp [gI_sI, h]
  · subst h; exact rI_c (by decide)
