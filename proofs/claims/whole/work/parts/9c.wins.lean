/-! PURE. wins. -/
section WNS
variable {σ τ : Mem} {x1 x2 x3 x4 x5 : Int32} {c : Nat → Int32}
theorem m_keep : ∀ k n i τ, i + k = 323 → k < n → gI τ 12 0 5 = c → (∀ j, j < i → gI τ 12 0 6 j = c j) →
    ∃ τ', F12_wins_L78 x1 x2 x3 n τ (nI i) = some ((), τ') ∧ FM [] [] [6] τ τ' ∧ ∀ j, j < 323 → gI τ' 12 0 6 j = c j := by
  intro k
  induction k with
  | zero =>
    intro n i τ hi hn hc h6
    obtain ⟨m, rfl⟩ : ∃ m, n = m + 1 := ⟨n - 1, by omega⟩
    obtain rfl : i = 323 := by omega
    simp only [F12_wins_L78.eq_2]
    rw [if_pos (show (323 : Int32) ≤ nI 323 from Int32.le_refl _)]
    exact ⟨_, rfl, FM.z, h6⟩
  | succ k ih =>
    intro n i τ hi hn hc h6
    obtain ⟨m, rfl⟩ : ∃ m, n = m + 1 := ⟨n - 1, by omega⟩
    simp only [F12_wins_L78.eq_2]
    rw [if_neg (show ¬ (323 : Int32) ≤ nI i from nI_ge (a := i) (b := 323) (by omega) (by omega)), ald_nI (by omega) (by omega), Option.bind_some, chk_nI (by omega) (by omega), bnd_eq, cl_nI (by omega), nI_1]
    obtain ⟨τ', o1, o2, o3⟩ := ih m (i + 1) (sI τ 12 0 6 i (gI τ 12 0 5 i)) (by omega) (by omega) (by rw [rI_c (by decide)]; exact hc) (fun j hj => by
      by_cases e : j = i
      · subst e; rw [rI_s, hc]
      · rw [rI_n e]; exact h6 j (by omega))
    exact ⟨τ', o1, (FM.sP FM.z (by decide) (by decide)).t o2, o3⟩
theorem m_restore : ∀ k n i τ, i + k = 323 → k < n → (∀ j, j < 323 → gI τ 12 0 6 j = c j) → (∀ j, j < i → gI τ 12 0 5 j = c j) →
    ∃ τ', F12_wins_L147 x1 x2 x3 x4 x5 n τ (nI i) = some ((), τ') ∧ FM [] [] [5] τ τ' ∧ (∀ j, j < 323 → gI τ' 12 0 5 j = c j) ∧ ∀ j, 323 ≤ j → gI τ' 12 0 5 j = gI τ 12 0 5 j := by
  intro k
  induction k with
  | zero =>
    intro n i τ hi hn h6 h5
    obtain ⟨m, rfl⟩ : ∃ m, n = m + 1 := ⟨n - 1, by omega⟩
    obtain rfl : i = 323 := by omega
    simp only [F12_wins_L147.eq_2]
    rw [if_pos (show (323 : Int32) ≤ nI 323 from Int32.le_refl _)]
    exact ⟨_, rfl, FM.z, h5, fun _ _ => rfl⟩
  | succ k ih =>
    intro n i τ hi hn h6 h5
    obtain ⟨m, rfl⟩ : ∃ m, n = m + 1 := ⟨n - 1, by omega⟩
    simp only [F12_wins_L147.eq_2]
    rw [if_neg (show ¬ (323 : Int32) ≤ nI i from nI_ge (a := i) (b := 323) (by omega) (by omega)), ald_nI (by omega) (by omega), Option.bind_some, chk_nI (by omega) (by omega), bnd_eq, cl_nI (by omega), nI_1]
    obtain ⟨τ', o1, o2, o3, o4⟩ := ih m (i + 1) (sI τ 12 0 5 i (gI τ 12 0 6 i)) (by omega) (by omega) (fun j hj => by rw [rI_c (by decide)]; exact h6 j hj) (fun j hj => by
      by_cases e : j = i
      · subst e; rw [rI_s]; exact h6 j (by omega)
      · rw [rI_n e]; exact h5 j (by omega))
    exact ⟨τ', o1, (FM.sP FM.z (by decide) (by decide)).t o2, o3, fun j hj => by rw [o4 j hj, rI_n (by omega)]⟩
/-- who leads, on both sides -/
theorem both_lead {N s y : Nat} (hN : N ≤ 6) (hs : s < N) (e6 : gI τ 12 0 5 6 = nI N) (sc : ∀ k, k < 6 → gI σ 7 y 5 k = gI τ 12 0 5 (77 + k)) :
    ∀ k n i, i + k = N → k < n → ∃ b, F7_leads_L2 y (nI s) (nI N) n σ (nI i) = some b ∧ F12_isAhead_L2 (nI s) n τ (nI i) = some b := by
  intro k
  induction k with
  | zero =>
    intro n i hi hn
    obtain ⟨m, rfl⟩ : ∃ m, n = m + 1 := ⟨n - 1, by omega⟩
    obtain rfl : i = N := by omega
    simp only [F7_leads_L2.eq_2, F12_isAhead_L2.eq_2]
    rw [al_6, Option.bind_some, e6, if_pos (Int32.le_refl _), if_pos (Int32.le_refl _)]
    exact ⟨_, rfl, rfl⟩
  | succ k ih =>
    intro n i hi hn
    obtain ⟨m, rfl⟩ : ∃ m, n = m + 1 := ⟨n - 1, by omega⟩
    obtain ⟨b, o1, o2⟩ := ih m (i + 1) (by omega) (by omega)
    simp only [F7_leads_L2.eq_2, F12_isAhead_L2.eq_2]
    rw [al_6, Option.bind_some, e6, if_neg (nI_ge (by omega) (by omega)), if_neg (nI_ge (by omega) (by omega)), nI_1]
    by_cases z : i = s
    · rw [if_pos (by rw [z]), if_pos (by rw [z])]
      exact ⟨b, o1, o2⟩
    · have z' : ¬ nI i = nI s := fun e => z ((nI_eq (by omega) (by omega)).mp e)
      rw [if_neg z', if_neg z', ald_nI (by omega) (by omega), Option.bind_some, ald_nI (by omega) (by omega), Option.bind_some, show (77 : Int32) + nI i = nI (77 + i) from nI_add 77 i, show (77 : Int32) + nI s = nI (77 + s) from nI_add 77 s, ald_nI (by omega) (by omega), Option.bind_some, ald_nI (by omega) (by omega), Option.bind_some, sc i (by omega), sc s (by omega)]
      by_cases l : gI τ 12 0 5 (77 + i) < gI τ 12 0 5 (77 + s)
      · rw [if_pos l, if_pos l]; exact ⟨b, o1, o2⟩
      · rw [if_neg l, if_neg l]; exact ⟨false, rfl, rfl⟩
end WNS
section WNT
variable {σC σM σ τ : Mem}
/-- mid-way through wins' seeds: only the trial's things have changed -/
def WinI (σC σM σ τ : Mem) : Prop :=
  (FC [4, 6, 7] σC σ ∧ (∀ b, b ≠ 1 → TY σ b = TY σC b) ∧ (∀ i, gI σ 4 0 i = gI σC 4 0 i) ∧ gB σ 4 0 = gB σC 4 0) ∧
  (gI τ 12 0 5 = gI σM 12 0 5 ∧ (∀ j, j < 323 → gI τ 12 0 6 j = gI σM 12 0 5 j) ∧
   (∀ j, j ∉ [28, 29, 30, 31, 49, 50, 51, 52, 53, 54, 55, 56, 57, 58, 59, 60] → gI τ 12 0 0 j = gI (mS σM) 12 0 0 j) ∧ gL τ 12 0 0 = gL σM 12 0 0 ∧ (∀ j, j ≠ 48 → gB τ 12 0 0 j = gB σM 12 0 0 j) ∧ (∀ p, p ≠ 5 → p ≠ 6 → p ≠ 0 → gI τ 12 0 p = gI σM 12 0 p ∧ gL τ 12 0 p = gL σM 12 0 p))
set_option maxHeartbeats 400000 in
theorem win_turn (h : Rel σC σM) (w : WinI σC σM σ τ) {N P s k v i x3 : Nat} (hk : k < 65536) (r3 : N ≤ 30) (r4 : P ≤ 60) (r5 : gI σM 12 0 5 324 = nI N) (r6 : gI σC 5 (gR σC 11 0 0 7) 0 2 = nI P) (r7 : Seg (gI σC 5 (gR σC 11 0 0 7)) (gI σM 12 0 5) 31 3 0 N 0 P) (hs : s < nat (gI σM 12 0 5 6)) (hi : i < x3) (h3 : x3 ≤ 20) (x2 : Int32) (e2 : x2 + nI i = nI k) :
    ∃ σ' τ' v', v' ≤ v + 1 ∧ WinI σC σM σ' τ' ∧ ∀ n, F11_wins_L75 (nI s) x2 (nI x3) (n + 1) σ (nI v) (nI i) = F11_wins_L75 (nI s) x2 (nI x3) n σ' (nI v') (nI (i + 1)) ∧ F12_wins_L112 (nI s) x2 (nI x3) (n + 1) τ (nI v) (nI i) = F12_wins_L112 (nI s) x2 (nI x3) n τ' (nI v') (nI (i + 1)) := by
  obtain ⟨⟨f1, f2, f3, f4⟩, g1, g2, g3, g4, g5, g6⟩ := w
  have o := h.ok5
  have n6 := ok_n6 o
  have i6 := ok_i6 o
  obtain ⟨σ1, c1, c2⟩ := c_copy7 (σ := σ) (d := 1) (s := 0) (by decide)
  have f11 : FC [4, 6, 7] σC σ1 := f1.t (c2.1.m (by decide))
  have t0 : TallyR (TY σ 0) (gI σM 12 0 5) := by rw [f2 0 (by decide)]; exact h.ta
  have t1 : TallyR (TY σ1 1) (gI σM 12 0 5) := t0.cp c2.2.2.1 c2.2.2.2.1
  have e5 : gI σ1 5 (gR σC 11 0 0 7) = gI σC 5 (gR σC 11 0 0 7) := by funext j; exact f11.fI 5 _ j (by decide)
  have er : gR σ1 11 0 0 = gR σC 11 0 0 := f11.fR 11 0 0 (by decide)
  obtain ⟨σ2, τ2, p1, p2, ⟨⟨q1, q2, q3, q4, q5⟩, m1, m2, m3, m4⟩, pr⟩ := pl_run (σ := σ1) (τ := τ) (t := 1) (y := 1) (u := gR σC 11 0 0 5) (r := gR σC 11 0 0 7) (k := k) (by rw [g1]; exact h.tt.fc f11 (by decide)) (by rw [g1, f11.fI 9 _ 0 (by decide)]; exact h.t0) (by rw [g1]; exact o) (by rw [g1]; exact t1) hk r3 r4 (by rw [g1]; exact r5) (by rw [e5]; exact r6) (by rw [e5, g1]; exact r7)
  rw [g1] at pr
  obtain ⟨⟨k1, k2, k3, k4, k5⟩, -⟩ := pr
  have er2 : gR σ2 11 0 0 = gR σC 11 0 0 := (q1.fR 11 0 0 (by decide)).trans er
  have e13 : gI σ2 9 (gR σC 11 0 0 5) 0 13 = nI (nat (gI σM 12 0 5 6)) := by rw [k1.1.2.2.2.2.2, k5 6 (by omega)]; exact i6
  obtain ⟨b, l1, l2⟩ := both_lead (σ := σ2) (τ := τ2) (y := 1) n6 hs (by rw [k5 6 (by omega)]; exact i6) (fun j hj => k4.2.2.1 j hj) (nat (gI σM 12 0 5 6)) fuelK 0 (by omega) (fuelK_lt (by omega))
  have cell : ∀ j, j < 323 → gI τ2 12 0 6 j = gI σM 12 0 5 j := fun j hj => by rw [(m4 6 (by decide) (by decide)).1]; exact g2 j hj
  have fin : ∀ v' : Nat, ∃ τ3, F12_wins_L147 (nI s) x2 (nI x3) (nI v') (nI i) fuelK τ2 0 = some ((), τ3) ∧ WinI σC σM σ2 τ3 := by
    intro v'
    obtain ⟨τ3, a1, a2, a3, a4⟩ := m_restore (x1 := nI s) (x2 := x2) (x3 := nI x3) (x4 := nI v') (x5 := nI i) 323 fuelK 0 τ2 (by omega) (fuelK_lt (by omega)) cell (fun j hj => absurd hj (by omega))
    refine ⟨τ3, a1, ⟨f11.t q1, fun b hb => ?_, fun j => ?_, ?_⟩, ?_, fun j hj => ?_, fun j hj => ?_, ?_, fun j hj => ?_, fun p h5 h6 h0 => ⟨?_, ?_⟩⟩
    · rw [q2 b hb, ← f2 b hb]
      have := (c2.2.1 b hb).1
      simp only [TY]
      rw [this]
    · rw [q3 0 j (by decide), c2.1.fI 4 0 j (by decide)]; exact f3 j
    · rw [q4 0 (by decide)]
      rw [← f4]; funext j; exact c2.1.fB 4 0 j (by decide)
    · funext j
      by_cases hj : j < 323
      · exact a3 j hj
      · rw [a4 j (by omega)]; exact k5 j (by omega)
    · rw [(a2.2.2.2 6 (by decide) (by decide)).1]; exact cell j hj
    · rw [a2.1 j (by simp), m1 j hj]; exact g3 j hj
    · rw [← g4, ← m2]; funext j; exact a2.2.1 j (by simp)
    · rw [a2.2.2.1, m3 j hj]; exact g5 j hj
    · rw [(a2.2.2.2 p (by simpa using h5) h0).1, (m4 p h5 h0).1]; exact (g6 p h5 h6 h0).1
    · rw [(a2.2.2.2 p (by simpa using h5) h0).2, (m4 p h5 h0).2]; exact (g6 p h5 h6 h0).2
  have ei : nI i + 1 = nI (i + 1) := nI_1 i
  have cl : ∀ n, F11_wins_L75 (nI s) x2 (nI x3) (n + 1) σ (nI v) (nI i) = if b = true then F11_wins_L75 (nI s) x2 (nI x3) n σ2 (nI v + 1) (nI (i + 1)) else F11_wins_L75 (nI s) x2 (nI x3) n σ2 (nI v) (nI (i + 1)) := by
    intro n
    have L : F7_leads σ2 1 (nI s) (nI (nat (gI σM 12 0 5 6))) = some b := l1
    simp only [F11_wins_L75.eq_2]
    rw [if_neg (nI_ge (by omega) (by omega)), c1, bd_some, er, gd_at h.r5, gd_at h.t5, e2, p1, bd_some, er2, gd_at h.t5, e13, L, Option.bind_some, ei]
  have ml : ∀ n, F12_wins_L112 (nI s) x2 (nI x3) (n + 1) τ (nI v) (nI i) = if b = true then (bd (F12_wins_L147 (nI s) x2 (nI x3) (nI v + 1) (nI i) fuelK τ2 0) fun _ s_20 => F12_wins_L112 (nI s) x2 (nI x3) n s_20 (nI v + 1) (nI (i + 1))) else (bd (F12_wins_L147 (nI s) x2 (nI x3) (nI v + 0) (nI i) fuelK τ2 0) fun _ s_17 => F12_wins_L112 (nI s) x2 (nI x3) n s_17 (nI v + 0) (nI (i + 1))) := by
    intro n
    have L : F12_isAhead τ2 (nI s) = some b := l2
    simp only [F12_wins_L112.eq_2]
    rw [if_neg (nI_ge (by omega) (by omega)), e2, p2, bd_some, L, Option.bind_some, ei, bnd_eq, bnd_eq]
  cases b with
  | true =>
    obtain ⟨τ3, a1, a2⟩ := fin (v + 1)
    refine ⟨σ2, τ3, v + 1, by omega, a2, fun n => ⟨?_, ?_⟩⟩
    · rw [cl, if_pos rfl, nI_1]
    · rw [ml, if_pos rfl, nI_1, a1, bd_some]
  | false =>
    obtain ⟨τ3, a1, a2⟩ := fin v
    have e0 : nI v + 0 = nI v := nI_add v 0
    refine ⟨σ2, τ3, v, by omega, a2, fun n => ⟨?_, ?_⟩⟩
    · rw [cl, if_neg (by decide)]
    · rw [ml, if_neg (by decide), e0, a1, bd_some]
theorem win_all (h : Rel σC σM) {N P s m x3 : Nat} (r3 : N ≤ 30) (r4 : P ≤ 60) (r5 : gI σM 12 0 5 324 = nI N) (r6 : gI σC 5 (gR σC 11 0 0 7) 0 2 = nI P) (r7 : Seg (gI σC 5 (gR σC 11 0 0 7)) (gI σM 12 0 5) 31 3 0 N 0 P) (hs : s < nat (gI σM 12 0 5 6)) (h3 : x3 ≤ 20) (hm : m < 10000) :
    ∀ k n i v σ τ, i + k = x3 → k < n → v ≤ i → WinI σC σM σ τ → ∃ σ' τ' v', v' ≤ 20 ∧ WinI σC σM σ' τ' ∧ F11_wins_L75 (nI s) (nI m) (nI x3) n σ (nI v) (nI i) = some (nI v', σ') ∧ F12_wins_L112 (nI s) (nI m) (nI x3) n τ (nI v) (nI i) = some (nI v', τ') := by
  intro k
  induction k with
  | zero =>
    intro n i v σ τ hi hn hv w
    obtain ⟨f, rfl⟩ : ∃ f, n = f + 1 := ⟨n - 1, by omega⟩
    obtain rfl : i = x3 := by omega
    refine ⟨σ, τ, v, by omega, w, ?_, ?_⟩
    · simp only [F11_wins_L75.eq_2]; rw [if_pos (Int32.le_refl _)]
    · simp only [F12_wins_L112.eq_2]; rw [if_pos (Int32.le_refl _)]
  | succ k ih =>
    intro n i v σ τ hi hn hv w
    obtain ⟨f, rfl⟩ : ∃ f, n = f + 1 := ⟨n - 1, by omega⟩
    obtain ⟨σ1, τ1, v1, a1, a2, a3⟩ := win_turn h w (k := m + i) (v := v) (x3 := x3) (by omega) r3 r4 r5 r6 r7 hs (by omega) h3 (nI m) (nI_add m i)
    obtain ⟨σ2, τ2, v2, b1, b2, b3, b4⟩ := ih f (i + 1) v1 σ1 τ1 (by omega) (by omega) (by omega) a2
    exact ⟨σ2, τ2, v2, b1, b2, by rw [(a3 f).1]; exact b3, by rw [(a3 f).2]; exact b4⟩
theorem st_wins (h : Rel σC σM) (x1 x2 x3 : Int32) : Stq (F11_wins σC x1 x2 x3) (F12_wins σM x1 x2 x3) := by
  have o := h.ok5
  have n6 := ok_n6 o
  unfold F11_wins F12_wins
  rw [bnd_mS, c_isShooter h, m_isShooter, Option.bind_some, Option.bind_some, mS_c]
  by_cases hs : ¬ F11_within x1 0 (gI σM 12 0 5 6 - 1) = true
  · simp only [hs, ↓reduceIte, if_false, Bool.false_and, Bool.and_false, Bool.true_and, Bool.and_true, Bool.false_eq_true, if_true, Bool.and_self, ans_eq, ref_eq, agr_eq, den_eq, mref_eq, mno_eq, bd_some, Option.bind_some, ne_2_0, ne_5_0]
    exact ⟨_, _, _, rfl, rfl, h.no 2⟩
  replace hs := Decidable.not_not.mp hs
  obtain ⟨s, hk6, rfl⟩ := in_rng (n6_int o) hs
  rw [if_pos hs, if_pos hs, wi_1_20]
  by_cases g3 : ¬ F11_within x3 1 20 = true
  · simp only [g3, ↓reduceIte, if_false, Bool.false_and, Bool.and_false, Bool.true_and, Bool.and_true, Bool.false_eq_true, if_true, Bool.and_self, ans_eq, ref_eq, agr_eq, den_eq, mref_eq, mno_eq, bd_some, Option.bind_some, ne_2_0, ne_5_0]
    have : ∀ b : Bool, ∃ (r : Bool) (σC' σM' : Mem), (if b = true then some (false, cS σC 5) else some (false, cS σC 5)) = some (r, σC') ∧ some (false, sI (mS σM) 12 0 0 0 5) = some (r, σM') ∧ Rel σC' σM' := by
      intro b
      cases b with
      | true => exact ⟨_, _, _, rfl, rfl, h.no 5⟩
      | false => exact ⟨_, _, _, rfl, rfl, h.no 5⟩
    exact this _
  replace g3 := Decidable.not_not.mp g3
  have w3 := wn_int g3
  have z1 : (1 : Int32).toInt = 1 := rfl
  have z20 : (20 : Int32).toInt = 20 := rfl
  obtain ⟨m3, hm3, rfl⟩ := i32_ex (x := x3) 20 (by omega) (by omega)
  have i3 := nI_int (n := m3) (by omega)
  rw [if_pos g3, if_pos g3]
  have z9 : (9999 : Int32).toInt = 9999 := rfl
  have z0 : (0 : Int32).toInt = 0 := rfl
  have t10 : (10000 - nI m3 : Int32).toInt = 10000 - m3 := by rw [i32_sub] <;> rw [i3, show (10000 : Int32).toInt = 10000 from rfl] <;> omega
  have iff2 : F12_isIn (Int32.toInt64 x2) 0 (Int32.toInt64 (10000 - nI m3)) = F11_within x2 0 (10000 - nI m3) := by
    rw [show (0 : Int64) = Int32.toInt64 0 from rfl]; exact isIn_within
  rw [iff2]
  by_cases g2 : ¬ F11_within x2 0 (10000 - nI m3) = true
  · rw [if_neg g2, mno_eq, bd_some]
    refine ⟨false, cS σC 5, _, ?_, rfl, h.no 5⟩
    by_cases g4 : F11_within x2 0 9999 = true
    · rw [if_pos g4, if_neg ?_]
      · rfl
      · intro e
        apply g2
        have w2 := within_iff.mp g4
        have l1 := i32_le.mp w2.1
        have l2 := i32_le.mp w2.2
        have s1 : (x2 + nI m3).toInt = x2.toInt + m3 := by rw [i32_add] <;> rw [i3] <;> omega
        have s2 : (x2 + nI m3 - 1).toInt = x2.toInt + m3 - 1 := by rw [i32_sub] <;> rw [s1, z1] <;> omega
        have l3 := i32_le.mp e
        exact within_iff.mpr ⟨w2.1, i32_le.mpr (by omega)⟩
    · rw [if_neg g4]; rfl
  replace g2 := Decidable.not_not.mp g2
  have w2 := wn_int g2
  obtain ⟨m2, hm2, rfl⟩ := i32_ex (x := x2) 9999 (by omega) (by omega)
  have i2 := nI_int (n := m2) (by omega)
  have s1 : (nI m2 + nI m3).toInt = m2 + m3 := by rw [i32_add] <;> rw [i2, i3] <;> omega
  have s2 : (nI m2 + nI m3 - 1).toInt = m2 + m3 - 1 := by rw [i32_sub] <;> rw [s1, z1] <;> omega
  rw [if_pos g2, if_pos (show F11_within (nI m2) 0 9999 = true from within_iff.mpr ⟨i32_le.mpr (by omega), i32_le.mpr (by omega)⟩), if_pos (show nI m2 + nI m3 - 1 ≤ 9999 from i32_le.mpr (by omega)), gd_at h.r5, al_323, Option.bind_some]
  rcases h.rnd with ⟨r1, r2⟩ | ⟨r1, r2, N, P, r3, r4, r5, r6, r7, r8⟩
  · rw [r1, if_neg (by decide), r2, if_pos rfl, den_eq, mno_eq, bd_some, bd_some]
    exact ⟨_, _, _, rfl, rfl, h.no 8⟩
  rw [r1, if_pos rfl, r2, if_neg (by decide)]
  obtain ⟨τ1, a1, a2, a3⟩ := m_keep (x1 := nI s) (x2 := nI m2) (x3 := nI m3) (c := gI σM 12 0 5) 323 fuelK 0 (mS σM) (by omega) (fuelK_lt (by omega)) mS_c (fun j hj => absurd hj (by omega))
  have a1' : F12_wins_L78 (nI s) (nI m2) (nI m3) fuelK (mS σM) 0 = some ((), τ1) := a1
  rw [a1', bd_some]
  have w0 : WinI σC σM σC τ1 := by
    refine ⟨⟨FC.z, fun _ _ => rfl, fun _ => rfl, rfl⟩, ?_, a3, fun j hj => a2.1 j (by simp), ?_, fun j hj => ?_, fun p h5 h6 h0 => ⟨?_, ?_⟩⟩
    · rw [(a2.2.2.2 5 (by decide) (by decide)).1]; exact mS_c
    · funext j; rw [a2.2.1 j (by simp)]; rfl
    · rw [a2.2.2.1]; rfl
    · rw [(a2.2.2.2 p (by simpa using h6) h0).1, rI_c h0, rI_c h0]
    · rw [(a2.2.2.2 p (by simpa using h6) h0).2]; rfl
  obtain ⟨σ2, τ2, v, b1, ⟨⟨f1, f2, f3, f4⟩, g1', g2', g3', g4', g5', g6'⟩, b3, b4⟩ := win_all h (m := m2) (x3 := m3) r3 r4 r6 r7 r8 hk6 (by omega) (by omega) m3 fuelK 0 0 σC τ1 (by omega) (fuelK_lt (by omega)) (by omega) w0
  have b3' : F11_wins_L75 (nI s) (nI m2) (nI m3) fuelK σC 0 0 = some (nI v, σ2) := b3
  have b4' : F12_wins_L112 (nI s) (nI m2) (nI m3) fuelK τ1 0 0 = some (nI v, τ2) := b4
  have iv := nI_int (n := v) (by omega)
  rw [b3', b4', bd_some, bd_some, tell_eq (by rw [i64_of32, iv]; omega) (by rw [i64_of32, i3]; omega), bd_some, frac_eq (by rw [i64_of32, iv]; omega) (by rw [i64_of32, i3]; omega), bd_some, agr_eq, bd_some]
  have rp : RelP σ2 τ2 := by
    have m0 : ∀ j, j ≠ 0 → j ≠ 1 → gI (mS σM) 12 0 0 j = gI σM 12 0 0 j := fun j h0 h1 => by rw [rI_n h0, rI_n h1]
    refine h.1.main f1 (by decide) (by decide) (by decide) (by decide) (by decide) (fun i => f2 _ (by omega)) ⟨(g6' 1 (by decide) (by decide) (by decide)).1, (g6' 2 (by decide) (by decide) (by decide)).1, (g6' 3 (by decide) (by decide) (by decide)).2, (g6' 4 (by decide) (by decide) (by decide)).1, (g6' 7 (by decide) (by decide) (by decide)).2⟩ ⟨?_, ?_, ?_, ?_⟩ (by rw [g1']; exact Agr.z) (by rw [g1', f2 0 (by decide)]; exact h.ta) ?_
    · rw [g3' 8 (by decide), m0 8 (by decide) (by decide)]
    · rw [g3' 10 (by decide), m0 10 (by decide) (by decide)]
    · rw [g3' 11 (by decide), m0 11 (by decide) (by decide)]
    · rw [g3' 23 (by decide), m0 23 (by decide) (by decide)]
    · rw [f4, f3, g5' 47 (by decide), (g6' 12 (by decide) (by decide) (by decide)).1]; exact h.1.2.2.2.2.2
  refine ⟨true, _, _, rfl, rfl, RelP.st (rp.congr (Eq.trans PC_L11 PC_L11) (Eq.trans PM_L0 PM_L0)) ?_ ?_ ?_⟩
  · rw [gI_sL, gI_sL, g3' 0 (by decide)]; exact rI_s
  · simp (disch := decide) only [rI_s, rI_n, rI_f, rI_a, rI_c, rL_s, rL_n, rL_f, rL_a, rL_c, rB_s, rB_n, rB_a, rR_s, rR_n, gI_sL, gI_sB, gI_sR, gL_sI, gL_sB, gL_sR, gB_sI, gB_sL, gB_sR, gR_sI, gR_sL, gR_sB]
  · simp (disch := decide) only [rI_s, rI_n, rI_f, rI_a, rI_c, rL_s, rL_n, rL_f, rL_a, rL_c, rB_s, rB_n, rB_a, rR_s, rR_n, gI_sL, gI_sB, gI_sR, gL_sI, gL_sB, gL_sR, gB_sI, gB_sL, gB_sR, gR_sI, gR_sL, gR_sB]
end WNT
