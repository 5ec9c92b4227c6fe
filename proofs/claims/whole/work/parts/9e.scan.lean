/-! PURE. tent, round: both scan alike. -/
section SCA
variable {σ τ σ1 τ1 : Mem} {L e s : Nat}
/-- the text that both read, L bytes long -/
def TxR (L : Nat) (σ τ : Mem) : Prop :=
  L ≤ 900 ∧ gI σ 8 0 0 10 = nI L ∧ gI τ 12 0 0 9 = nI L ∧ (∀ k, k < L → gI σ 8 0 1 k = gI τ 12 0 4 k ∧ -128 ≤ (gI τ 12 0 4 k).toInt ∧ (gI τ 12 0 4 k).toInt ≤ 127) ∧ ∀ k, k < 30 → gL σ 8 0 2 k = wordsN.getD k 0
/-- what a token's scan may change -/
def CT (σ σ' : Mem) : Prop := FC [8] σ σ' ∧ (∀ j, j ∉ [4, 5, 7, 8, 11, 12] → gI σ' 8 0 0 j = gI σ 8 0 0 j) ∧ gI σ' 8 0 1 = gI σ 8 0 1 ∧ gL σ' 8 0 2 = gL σ 8 0 2
theorem CT.z : CT σ σ := ⟨FC.z, fun _ _ => rfl, rfl, rfl⟩
theorem CT.t {σ2 : Mem} (h : CT σ σ1) (k : CT σ1 σ2) : CT σ σ2 := ⟨h.1.t k.1, fun j hj => (k.2.1 j hj).trans (h.2.1 j hj), k.2.2.1.trans h.2.2.1, k.2.2.2.trans h.2.2.2⟩
theorem CT.I (h : CT σ σ1) {j : Nat} {v : Int32} (hj : j ∈ [4, 5, 7, 8, 11, 12]) : CT σ (sI σ1 8 0 0 j v) := by
  refine h.t ⟨FC.I (by decide), fun i hi => rI_n (fun e => hi (e ▸ hj)), rI_c (by decide), rfl⟩
theorem CT.wL (h : CT σ σ1) {v : Int64} : CT σ (sL σ1 8 0 0 6 v) := by
  refine h.t ⟨FC.L (by decide), fun i _ => rfl, rfl, rL_c (by decide)⟩
theorem TxR.fr (t : TxR L σ τ) (c : CT σ σ1) (m9 : gI τ1 12 0 0 9 = gI τ 12 0 0 9) (m4 : gI τ1 12 0 4 = gI τ 12 0 4) : TxR L σ1 τ1 := by
  obtain ⟨h1, h2, h3, h4, h5⟩ := t
  obtain ⟨c1, c2, c3, c4⟩ := c
  refine ⟨h1, by rw [c2 10 (by decide)]; exact h2, by rw [m9]; exact h3, by rw [c3, m4]; exact h4, by rw [c4]; exact h5⟩
theorem TxR.f (t : TxR L σ τ) (c : CT σ σ1) {i l : List Nat} (g : FM i l [] τ τ1) (hi : 9 ∉ i) : TxR L σ1 τ1 := t.fr c (g.1 9 hi) (g.2.2.2 4 List.not_mem_nil (by decide)).1
theorem sI_2 {a b c j : Nat} {v w : Int32} : sI (sI σ a b c j v) a b c j w = sI σ a b c j w := by
  have : upd (gI (sIf σ a b c (upd (gI σ a b c) j v)) a b c) j w = upd (gI σ a b c) j w := by
    rw [rI_f]; funext i; simp only [upd_eq]; split <;> rfl
  show sIf _ a b c (upd (gI (sIf σ a b c (upd (gI σ a b c) j v)) a b c) j w) = _
  rw [this, sIf_sIf]
theorem TxR.c (t : TxR L σ τ) (he : e < L) : ald 900 (gI σ 8 0 1) (nI e) = some (gI τ 12 0 4 e) := by
  rw [ald_nI (by have := t.1; omega) (by omega), (t.2.2.2.1 e he).1]
theorem TxR.m (t : TxR L σ τ) (he : e < L) : F12_look2 τ (nI e) = some (gI τ 12 0 4 e &&& 255) := by
  have := t.1
  unfold F12_look2
  rw [t.2.2.1, if_neg (nI_ge (by omega) (by omega)), ald_nI (by omega) (by omega), Option.bind_some]
theorem TxR.m0 (t : TxR L σ τ) : F12_look2 τ (nI L) = some 0 := by
  unfold F12_look2
  rw [t.2.2.1, if_pos (Int32.le_refl _)]
theorem scan_blank : ∀ k n m e σ τ, e + k = L → k < n → k < m → TxR L σ τ → gI σ 8 0 0 11 = nI e → gI τ 12 0 0 15 = nI e →
    ∃ s, e ≤ s ∧ s ≤ L ∧ F8_advance_L0 n σ = some ((), sI σ 8 0 0 11 (nI s)) ∧ F12_next_L8 m τ = some ((), sI τ 12 0 0 15 (nI s)) := by
  intro k
  induction k with
  | zero =>
    intro n m e σ τ he hn hm tx h11 h15
    have hL := tx.1
    obtain ⟨n', rfl⟩ : ∃ n', n = n' + 1 := ⟨n - 1, by omega⟩
    obtain ⟨m', rfl⟩ : ∃ m', m = m' + 1 := ⟨m - 1, by omega⟩
    obtain rfl : e = L := by omega
    refine ⟨e, Nat.le_refl e, Nat.le_refl e, ?_, ?_⟩
    · simp only [F8_advance_L0.eq_2]
      rw [tx.2.1, h11, if_pos (Int32.le_refl _), sI_self h11]
    · simp only [F12_next_L8.eq_2]
      rw [tx.2.2.1, h15, if_pos (Int32.le_refl _), sI_self h15]
  | succ k ih =>
    intro n m e σ τ he hn hm tx h11 h15
    have hL := tx.1
    have heL : e < L := by omega
    obtain ⟨n', rfl⟩ : ∃ n', n = n' + 1 := ⟨n - 1, by omega⟩
    obtain ⟨m', rfl⟩ : ∃ m', m = m' + 1 := ⟨m - 1, by omega⟩
    obtain ⟨-, b1, b2⟩ := tx.2.2.2.1 e heL
    have go : ∃ s, e ≤ s ∧ s ≤ L ∧ F8_advance_L0 n' (sI σ 8 0 0 11 (nI (e + 1))) = some ((), sI σ 8 0 0 11 (nI s)) ∧ F12_next_L8 m' (sI τ 12 0 0 15 (nI (e + 1))) = some ((), sI τ 12 0 0 15 (nI s)) := by
      obtain ⟨s, s1, s2, s3, s4⟩ := ih n' m' (e + 1) (sI σ 8 0 0 11 (nI (e + 1))) (sI τ 12 0 0 15 (nI (e + 1))) (by omega) (by omega) (by omega) (tx.f (i := [15]) (l := []) (CT.z.I (by decide)) (FM.I (by decide)) (by decide)) rI_s rI_s
      exact ⟨s, by omega, s2, by rw [s3, sI_2], by rw [s4, sI_2]⟩
    simp only [F8_advance_L0.eq_2, F12_next_L8.eq_2]
    rw [tx.2.1, h11, if_neg (nI_ge (by omega) (by omega)), tx.c heL, Option.bind_some, Option.bind_some, tx.2.2.1, h15, if_neg (nI_ge (by omega) (by omega)), tx.m heL, Option.bind_some, Option.bind_some]
    simp only [by_eq b1 b2 (w := 10) (by decide) (by decide), by_eq b1 b2 (w := 32) (by decide) (by decide), nI_1, bnd_eq]
    by_cases c1 : gI τ 12 0 4 e = 10
    · simp only [if_pos c1]; exact go
    · simp only [if_neg c1]
      by_cases c2 : gI τ 12 0 4 e = 32
      · simp only [if_pos c2]; exact go
      · simp only [if_neg c2]
        exact ⟨e, Nat.le_refl e, by omega, by rw [sI_self h11], by rw [sI_self h15]⟩
/-- a word's letters so far -/
def Wrel (c : Nat) (y W : Int64) : Prop := (c ≤ 8 → y = W ∧ 0 ≤ y.toInt ∧ y.toInt < 32 ^ c ∧ (1 ≤ c → 1 ≤ y.toInt)) ∧ (8 < c → W = -1)
theorem pow32 {c : Nat} (h : c ≤ 8) : (32 : Int) ^ c ≤ 1099511627776 := by
  have : (32 : Nat) ^ c ≤ 32 ^ 8 := Nat.pow_le_pow_right (by omega) h
  have e : (32 : Nat) ^ 8 = 1099511627776 := by decide
  have h2 : ((32 ^ c : Nat) : Int) ≤ 1099511627776 := by omega
  rwa [Int.natCast_pow] at h2
theorem wl_eq (y : Int64) (v : Int32) (h1 : 97 ≤ v.toInt) (h2 : v.toInt ≤ 122) : F8_withLetter y v = y * 32 + v.toInt64 - 96 ∧ (v.toInt64 - 96 : Int64).toInt = v.toInt - 96 := by
  have a : (v - 97 + 1 : Int32).toInt = v.toInt - 96 := by
    have e1 : (v - 97 : Int32).toInt = v.toInt - 97 := by rw [i32_sub] <;> rw [show (97 : Int32).toInt = 97 from rfl] <;> omega
    rw [i32_add] <;> rw [e1, show (1 : Int32).toInt = 1 from rfl] <;> omega
  have b : (v.toInt64 - 96 : Int64).toInt = v.toInt - 96 := by
    rw [i64_sub] <;> rw [i64_of32, show (96 : Int64).toInt = 96 from rfl] <;> omega
  refine ⟨?_, b⟩
  have c : Int32.toInt64 (v - 97 + 1) = v.toInt64 - 96 := by rw [i64_eq, i64_of32, a, b]
  unfold F8_withLetter
  rw [c]
  grind
theorem Wrel.more {c : Nat} {y W : Int64} {v : Int32} (h : Wrel c y W) (h1 : 97 ≤ v.toInt) (h2 : v.toInt ≤ 122) : Wrel (c + 1) (F8_withLetter y v) (if 8 ≤ c then -1 else W * 32 + v.toInt64 - 96) := by
  obtain ⟨w1, w2⟩ := wl_eq y v h1 h2
  by_cases hc : 8 ≤ c
  · rw [if_pos hc]
    exact ⟨fun h => absurd h (by omega), fun _ => rfl⟩
  · rw [if_neg hc]
    obtain ⟨a1, a2, a3, a4⟩ := h.1 (by omega)
    subst a1
    refine ⟨fun _ => ⟨w1, ?_⟩, fun h => absurd h (by omega)⟩
    have p := pow32 (c := c) (by omega)
    have p1 : (32 : Int) ^ (c + 1) = 32 ^ c * 32 := Int.pow_succ ..
    have m : (y * 32 : Int64).toInt = y.toInt * 32 := by rw [i64_mul] <;> rw [show (32 : Int64).toInt = 32 from rfl] <;> omega
    have s : (y * 32 + v.toInt64 - 96 : Int64).toInt = y.toInt * 32 + (v.toInt - 96) := by
      have : y * 32 + v.toInt64 - 96 = y * 32 + (v.toInt64 - 96) := by grind
      rw [this, i64_add] <;> rw [m, w2] <;> omega
    rw [w1, s, p1]
    omega
theorem scan_word : ∀ k n m e y σ τ, e + k = L → k < n → k < m → s ≤ e → TxR L σ τ → gI σ 8 0 0 11 = nI e → gI τ 12 0 0 16 = nI e → gI τ 12 0 0 15 = nI s → Wrel (e - s) y (gL τ 12 0 0 19) →
    ∃ e' y' τ', e ≤ e' ∧ e' ≤ L ∧ (e < L → F8_isLetter (gI τ 12 0 4 e) = true → e < e') ∧ F8_scanWord_L2 n σ y = some (y', sI σ 8 0 0 11 (nI e')) ∧ F12_next_L109 m τ = some ((), τ') ∧ FM [16] [19] [] τ τ' ∧ gI τ' 12 0 0 16 = nI e' ∧ Wrel (e' - s) y' (gL τ' 12 0 0 19) := by
  intro k
  induction k with
  | zero =>
    intro n m e y σ τ he hn hm hs tx h11 h16 h15 w
    have hL := tx.1
    obtain ⟨n', rfl⟩ : ∃ n', n = n' + 1 := ⟨n - 1, by omega⟩
    obtain ⟨m', rfl⟩ : ∃ m', m = m' + 1 := ⟨m - 1, by omega⟩
    obtain rfl : e = L := by omega
    refine ⟨e, y, τ, Nat.le_refl e, Nat.le_refl e, fun h => absurd h (by omega), ?_, ?_, FM.z, h16, w⟩
    · simp only [F8_scanWord_L2.eq_2]
      rw [tx.2.1, h11, if_pos (Int32.le_refl _), sI_self h11]
    · simp only [F12_next_L109.eq_2]
      rw [h16, tx.m0, Option.bind_some, if_neg (by decide)]
  | succ k ih =>
    intro n m e y σ τ he hn hm hs tx h11 h16 h15 w
    have hL := tx.1
    have heL : e < L := by omega
    obtain ⟨n', rfl⟩ : ∃ n', n = n' + 1 := ⟨n - 1, by omega⟩
    obtain ⟨m', rfl⟩ : ∃ m', m = m' + 1 := ⟨m - 1, by omega⟩
    obtain ⟨-, b1, b2⟩ := tx.2.2.2.1 e heL
    simp only [F8_scanWord_L2.eq_2, F12_next_L109.eq_2]
    rw [tx.2.1, h11, if_neg (nI_ge (by omega) (by omega)), tx.c heL, Option.bind_some, Option.bind_some, h16, tx.m heL, Option.bind_some, Option.bind_some, by_letter b1 b2]
    by_cases c1 : F8_isLetter (gI τ 12 0 4 e) = true
    · obtain ⟨l1, l2⟩ := letter_int c1
      have e255 : gI τ 12 0 4 e &&& 255 = gI τ 12 0 4 e := by
        rcases b255 b1 b2 with ⟨-, h⟩ | ⟨h, -⟩
        · exact h
        · omega
      rw [if_pos c1, if_pos c1, e255, nI_1, h15, pk_sub hs]
      simp only [bnd_eq]
      by_cases c8 : 8 ≤ e - s
      · rw [if_pos (show (8 : Int32) ≤ nI (e - s) from nI_le (a := 8) (b := e - s) (by omega) (by omega))]
        have w' := w.more l1 l2
        rw [if_pos c8, show e - s + 1 = e + 1 - s by omega] at w'
        obtain ⟨e', y', τ', s1, s2, -, s3, s4, s5, s6, s7⟩ := ih n' m' (e + 1) (F8_withLetter y (gI τ 12 0 4 e)) (sI σ 8 0 0 11 (nI (e + 1))) (sI (sL τ 12 0 0 19 (-1)) 12 0 0 16 (nI (e + 1))) (by omega) (by omega) (by omega) (by omega) (tx.f (i := [16]) (l := [19]) (CT.z.I (by decide)) (FM.sI (FM.L (by decide)) (by decide)) (by decide)) rI_s rI_s (by rw [rI_n (by decide), gI_sL]; exact h15) (by rw [gL_sI, rL_s]; exact w')
        exact ⟨e', y', τ', by omega, s2, fun _ _ => by omega, by rw [s3, sI_2], by rw [← s4, gI_sL, h16, nI_1], (FM.sI (FM.L (by decide)) (by decide)).t s5, s6, s7⟩
      · rw [if_neg (show ¬ (8 : Int32) ≤ nI (e - s) from nI_ge (a := e - s) (b := 8) (by omega) (by omega))]
        have w' := w.more l1 l2
        rw [if_neg c8, show e - s + 1 = e + 1 - s by omega] at w'
        obtain ⟨e', y', τ', s1, s2, -, s3, s4, s5, s6, s7⟩ := ih n' m' (e + 1) (F8_withLetter y (gI τ 12 0 4 e)) (sI σ 8 0 0 11 (nI (e + 1))) (sI (sL τ 12 0 0 19 (gL τ 12 0 0 19 * 32 + (gI τ 12 0 4 e).toInt64 - 96)) 12 0 0 16 (nI (e + 1))) (by omega) (by omega) (by omega) (by omega) (tx.f (i := [16]) (l := [19]) (CT.z.I (by decide)) (FM.sI (FM.L (by decide)) (by decide)) (by decide)) rI_s rI_s (by rw [rI_n (by decide), gI_sL]; exact h15) (by rw [gL_sI, rL_s]; exact w')
        exact ⟨e', y', τ', by omega, s2, fun _ _ => by omega, by rw [s3, sI_2], by rw [← s4, gI_sL, h16, nI_1], (FM.sI (FM.L (by decide)) (by decide)).t s5, s6, s7⟩
    · rw [if_neg c1, if_neg c1]
      exact ⟨e, y, τ, Nat.le_refl e, by omega, fun _ h => absurd h c1, by rw [sI_self h11], rfl, FM.z, h16, w⟩
theorem scan_num : ∀ k n m e x σ τ, e + k = L → k < n → k < m → s ≤ e → TxR L σ τ → gI σ 8 0 0 11 = nI e → gI τ 12 0 0 16 = nI e → gI τ 12 0 0 15 = nI s → (e - s ≤ 4 → x = gI τ 12 0 0 17) →
    ∃ e' x' τ', e ≤ e' ∧ e' ≤ L ∧ (e < L → F8_isDigit (gI τ 12 0 4 e) = true → e < e') ∧ F8_scanNumber_L2 n σ x = some (x', sI σ 8 0 0 11 (nI e')) ∧ F12_next_L210 m τ = some ((), τ') ∧ FM [16, 17] [] [] τ τ' ∧ gI τ' 12 0 0 16 = nI e' ∧ (e' - s ≤ 4 → x' = gI τ' 12 0 0 17) := by
  intro k
  induction k with
  | zero =>
    intro n m e x σ τ he hn hm hs tx h11 h16 h15 w
    have hL := tx.1
    obtain ⟨n', rfl⟩ : ∃ n', n = n' + 1 := ⟨n - 1, by omega⟩
    obtain ⟨m', rfl⟩ : ∃ m', m = m' + 1 := ⟨m - 1, by omega⟩
    obtain rfl : e = L := by omega
    refine ⟨e, x, τ, Nat.le_refl e, Nat.le_refl e, fun h => absurd h (by omega), ?_, ?_, FM.z, h16, w⟩
    · simp only [F8_scanNumber_L2.eq_2]
      rw [tx.2.1, h11, if_pos (Int32.le_refl _), sI_self h11]
    · simp only [F12_next_L210.eq_2]
      rw [h16, tx.m0, Option.bind_some, if_neg (by decide)]
  | succ k ih =>
    intro n m e x σ τ he hn hm hs tx h11 h16 h15 w
    have hL := tx.1
    have heL : e < L := by omega
    obtain ⟨n', rfl⟩ : ∃ n', n = n' + 1 := ⟨n - 1, by omega⟩
    obtain ⟨m', rfl⟩ : ∃ m', m = m' + 1 := ⟨m - 1, by omega⟩
    obtain ⟨-, b1, b2⟩ := tx.2.2.2.1 e heL
    simp only [F8_scanNumber_L2.eq_2, F12_next_L210.eq_2]
    rw [tx.2.1, h11, if_neg (nI_ge (by omega) (by omega)), tx.c heL, Option.bind_some, Option.bind_some, h16, tx.m heL, Option.bind_some, Option.bind_some, by_digit b1 b2]
    by_cases c1 : F8_isDigit (gI τ 12 0 4 e) = true
    · have e255 : gI τ 12 0 4 e &&& 255 = gI τ 12 0 4 e := by
        rcases b255 b1 b2 with ⟨-, h⟩ | ⟨h, -⟩
        · exact h
        · exfalso
          unfold F8_isDigit at c1
          rw [if_pos (show gI τ 12 0 4 e < 48 by rw [i32_lt, show (48 : Int32).toInt = 48 from rfl]; omega)] at c1
          exact absurd c1 (by decide)
      rw [if_pos c1, if_pos c1, e255, nI_1, h15, pk_sub hs]
      simp only [bnd_eq]
      by_cases c4 : 4 ≤ e - s
      · rw [if_pos (show (4 : Int32) ≤ nI (e - s) from nI_le (a := 4) (b := e - s) (by omega) (by omega))]
        obtain ⟨e', x', τ', s1, s2, -, s3, s4, s5, s6, s7⟩ := ih n' m' (e + 1) (x * 10 + (gI τ 12 0 4 e - 48)) (sI σ 8 0 0 11 (nI (e + 1))) (sI τ 12 0 0 16 (nI (e + 1))) (by omega) (by omega) (by omega) (by omega) (tx.f (i := [16]) (l := []) (CT.z.I (by decide)) (FM.I (by decide)) (by decide)) rI_s rI_s (by rw [rI_n (by decide)]; exact h15) (fun h => absurd h (by omega))
        exact ⟨e', x', τ', by omega, s2, fun _ _ => by omega, by rw [s3, sI_2], s4, (FM.I (by decide)).t s5, s6, s7⟩
      · rw [if_neg (show ¬ (4 : Int32) ≤ nI (e - s) from nI_ge (a := e - s) (b := 4) (by omega) (by omega))]
        obtain ⟨e', x', τ', s1, s2, -, s3, s4, s5, s6, s7⟩ := ih n' m' (e + 1) (x * 10 + (gI τ 12 0 4 e - 48)) (sI σ 8 0 0 11 (nI (e + 1))) (sI (sI τ 12 0 0 17 (10 * gI τ 12 0 0 17 + gI τ 12 0 4 e - 48)) 12 0 0 16 (nI (e + 1))) (by omega) (by omega) (by omega) (by omega) (tx.f (i := [16, 17]) (l := []) (CT.z.I (by decide)) (FM.sI (FM.I (by decide)) (by decide)) (by decide)) rI_s rI_s (by rw [rI_n (by decide), rI_n (by decide)]; exact h15) (fun h => by rw [rI_n (by decide), rI_s, ← w (by omega)]; grind)
        exact ⟨e', x', τ', by omega, s2, fun _ _ => by omega, by rw [s3, sI_2], by rw [← s4, rI_n (by decide), h16, nI_1], (FM.sI (FM.I (by decide)) (by decide)).t s5, s6, s7⟩
    · rw [if_neg c1, if_neg c1]
      exact ⟨e, x, τ, Nat.le_refl e, by omega, fun _ h => absurd h c1, by rw [sI_self h11], rfl, FM.z, h16, w⟩
theorem scan_names : ∀ k n i σ, i + k = 30 → k < n → (∀ j, j < 30 → gL σ 8 0 2 j = wordsN.getD j 0) → gI σ 8 0 0 5 = wfind (gL σ 8 0 0 6) i →
    ∃ σ', F8_scanWord_L85 n σ (nI i) = some ((), σ') ∧ CT σ σ' ∧ gI σ' 8 0 0 5 = wfind (gL σ 8 0 0 6) 30 ∧ (∀ j, j ≠ 5 → gI σ' 8 0 0 j = gI σ 8 0 0 j) ∧ gL σ' 8 0 0 6 = gL σ 8 0 0 6 := by
  intro k
  induction k with
  | zero =>
    intro n i σ hi hn hw h
    obtain ⟨n', rfl⟩ : ∃ n', n = n' + 1 := ⟨n - 1, by omega⟩
    obtain rfl : i = 30 := by omega
    simp only [F8_scanWord_L85.eq_2]
    rw [if_pos (show (30 : Int32) ≤ nI 30 from Int32.le_refl _)]
    exact ⟨_, rfl, CT.z, h, fun _ _ => rfl, rfl⟩
  | succ k ih =>
    intro n i σ hi hn hw h
    obtain ⟨n', rfl⟩ : ∃ n', n = n' + 1 := ⟨n - 1, by omega⟩
    simp only [F8_scanWord_L85.eq_2]
    rw [if_neg (show ¬ (30 : Int32) ≤ nI i from nI_ge (a := i) (b := 30) (by omega) (by omega)), ald_nI (by omega) (by omega), Option.bind_some, hw i (by omega), nI_1]
    by_cases c : wordsN.getD i 0 = gL σ 8 0 0 6
    · rw [if_pos c, bnd_eq]
      have e : wfind (gL σ 8 0 0 6) (i + 1) = nI i := by unfold wfind; rw [if_pos c]
      obtain ⟨σ', o1, o2, o3, o4, o5⟩ := ih n' (i + 1) (sI σ 8 0 0 5 (nI i)) (by omega) (by omega) hw (by rw [rI_s]; exact e.symm)
      exact ⟨σ', o1, (CT.z.I (by decide)).t o2, o3, fun j hj => (o4 j hj).trans (rI_n hj), o5⟩
    · rw [if_neg c]
      have e : wfind (gL σ 8 0 0 6) (i + 1) = wfind (gL σ 8 0 0 6) i := by rw [show wfind (gL σ 8 0 0 6) (i + 1) = (if wordsN.getD i 0 = gL σ 8 0 0 6 then nI i else wfind (gL σ 8 0 0 6) i) from rfl, if_neg c]
      exact ih n' (i + 1) σ (by omega) (by omega) hw (h.trans e.symm)
end SCA
