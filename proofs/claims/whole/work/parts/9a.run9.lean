/-! PURE. play, wins: the run over a stretch, a loop first. -/
section PSC
variable {σ τ : Mem} {t r u y P p : Nat} {c : Nat → Int32} {ri : VI}
theorem PlR.todo (h : PlR t u y c σ τ) {v : Int32} : PlR t u y c (sI σ 4 t 1 p v) τ := by
  have hh := h
  obtain ⟨⟨k1, k2, k3, k4, k5⟩, ⟨a1, a2, a3, a4, a5, a6⟩, ⟨k, kr, kc, km⟩, ⟨q, qc, qm, qq⟩, ⟨b1, b2⟩, ⟨g1, g2, g3⟩, g4⟩ := h
  have z6 : ∀ l, gI (sI σ 4 t 1 p v) 6 (1 + t) 0 l = gI σ 6 (1 + t) 0 l := fun l => by rw [rI_a (by decide)]
  have zy : TY (sI σ 4 t 1 p v) y = TY σ y := by simp (disch := decide) only [TY, rI_a]
  have z4 : ∀ l, gI (sI σ 4 t 1 p v) 4 t 0 l = gI σ 4 t 0 l := fun l => by rw [rI_c (by decide)]
  refine hh.up (c1 := gI τ 12 0 5) (FC.I (by decide)) rfl Agr.z (by rw [zy]; exact k4) ⟨?_, ?_, ?_, ?_, ?_, ?_⟩ ⟨k, kr, ?_, km⟩ ⟨q, ?_, qm, qq⟩ ⟨?_, ?_⟩ ⟨?_, g2, g3⟩ ?_
  · rw [z4]; exact a1
  · rw [z4]; exact a2
  · rw [z4]; exact a3
  · rw [z4]; exact a4
  · rw [z4]; exact a5
  · rw [z4]; exact a6
  · rw [z4]; exact kc
  · rw [z6]; exact qc
  · rw [z6]; exact b1
  · rw [z6]; exact b2
  · rw [z4]; exact g1
  · rw [z4]; exact g4
/-- one turn of a loop: m more behind it -/
theorem turn_1 {d1 s e1 q1 N D1 m i mx k : Nat} (hP6 : P ≤ 60) (hP : ri 0 2 = nI P) (hq : q1 < P) (he : e1 ≤ 30) (hse : s < e1) (hpq : p + 1 ≤ q1) (hN : N ≤ 99) (hD : d1 ≤ D1)
    (b28 : ri 1 q1 = 28) (b5 : ri 5 q1 = nI p) (e27 : ri 1 p = 27) (c1 : c (325 + 9 * s + 1) = nI N) (e8 : c (325 + 9 * s + 8) = nI e1) (inn : RunIs t r u y P c ri d1 (s + 1) e1 (p + 1) q1)
    (him : i + m + 1 = N) (e5 : gI σ 5 r = ri) (h : PlR t u y c σ τ) (h48 : gB τ 12 0 0 48 = false) (hk : gI τ 12 0 0 50 = nI k) (k3 : k ≤ 300) (hmx : mx ≤ 102 * k) (td : gI σ 4 t 1 p = nI (m + 1)) :
    ∃ σ' τ', PlG t y σ τ σ' τ' ∧ PlR t u y c σ' τ' ∧ (∀ n, F12_doOne_L120 (R12_doAll (D1 + 1)) (nI s) (nI (325 + 9 * s)) (n + 1) τ (nI i) = F12_doOne_L120 (R12_doAll (D1 + 1)) (nI s) (nI (325 + 9 * s)) n τ' (nI (i + 1))) ∧
      ((∃ M k', k ≤ k' ∧ k' ≤ 300 ∧ M ≤ 102 * (k' - k) + 1 ∧ (∀ n, F4_run_L12 t r u y (n + M) σ (nI (p + 1)) (nI mx) = F4_run_L12 t r u y n σ' (nI (if m = 0 then q1 + 1 else p + 1)) (nI (mx + M))) ∧ gB τ' 12 0 0 48 = false ∧ gI τ' 12 0 0 50 = nI k' ∧ gI σ' 4 t 1 p = nI m ∧ ∀ j, j < p ∨ q1 + 1 ≤ j → gI σ' 4 t 1 j = gI σ 4 t 1 j) ∨
       (gB τ' 12 0 0 48 = true ∧ ∃ M, M ≤ 102 * (300 - k) ∧ ∀ n, F4_run_L12 t r u y (n + M + 1) σ (nI (p + 1)) (nI mx) = some ((), σ'))) := by
  have ag := h.1.2.2.2.2
  obtain ⟨σ2, τ2, ⟨g2, p2, o2⟩, b2⟩ := inn he (by omega) D1 hD σ τ mx k e5 h h48 hk k3 hmx
  have turn : ∀ n, F12_doOne_L120 (R12_doAll (D1 + 1)) (nI s) (nI (325 + 9 * s)) (n + 1) τ (nI i) = F12_doOne_L120 (R12_doAll (D1 + 1)) (nI s) (nI (325 + 9 * s)) n τ2 (nI (i + 1)) := by
    intro n
    rw [m_turn (N := N) (by omega) (by rw [ag _ (by omega)]; exact c1) (by omega) (by omega) h48, ag _ (by omega), e8]
    have : R12_doAll (D1 + 1) τ (nI (s + 1)) (nI e1) = some ((), τ2) := by
      show O12_doAll (fun s y => O12_doOne (R12_doAll D1) s y) τ (nI (s + 1)) (nI e1) = _
      unfold O12_doAll
      rw [b2 fuelK (fuelK_lt (by omega)), bd_some]
    rw [this, bd_some]
  rcases o2 with ⟨M, k', a1, a2, a3, a4, a5, a6, a7⟩ | ⟨a1, M, a2, a3⟩
  · have e52 : gI σ2 5 r = ri := by rw [← e5]; funext j; exact g2.1.1.fI 5 r j (by decide)
    have endL := run_endL (t := t) (u := u) (y := y) (σ := σ2) (mx := mx + M) (m := m) (by rw [e52]; exact hP) (q := q1) hq hP6 (by omega) (by rw [e52]; exact b28) (by rw [e52]; exact b5) (p := p) (by omega) (by rw [e52]; exact e27) ((a7 p (by omega)).trans td) (by omega)
    refine ⟨_, _, g2.tr plg_todo, p2.todo, turn, .inl ⟨M + 1, k', a1, a2, by omega, fun n => ?_, a5, a6, rI_s, fun j hj => ?_⟩⟩
    · rw [show n + (M + 1) = n + 1 + M by omega, a4, endL, Nat.add_assoc]
    · rw [rI_n (by omega), a7 j (by omega)]
  · exact ⟨_, _, g2, p2, turn, .inr ⟨a1, M, a2, a3⟩⟩
/-- all turns of a loop, from one on -/
theorem turns_L {d1 s e1 q1 N D1 : Nat} (hP6 : P ≤ 60) (hP : ri 0 2 = nI P) (hq : q1 < P) (he : e1 ≤ 30) (hse : s < e1) (hpq : p + 1 ≤ q1) (hN : N ≤ 99) (hD : d1 ≤ D1)
    (b28 : ri 1 q1 = 28) (b5 : ri 5 q1 = nI p) (e27 : ri 1 p = 27) (c1 : c (325 + 9 * s + 1) = nI N) (e8 : c (325 + 9 * s + 8) = nI e1) (inn : RunIs t r u y P c ri d1 (s + 1) e1 (p + 1) q1) :
    ∀ m i, i + m + 1 = N → ∀ σ τ mx k nn, gI σ 5 r = ri → PlR t u y c σ τ → gB τ 12 0 0 48 = false → gI τ 12 0 0 50 = nI k → k ≤ 300 → mx + m ≤ 102 * k → gI σ 4 t 1 p = nI (m + 1) → m + 1 < nn →
    ∃ σ' τ', PlG t y σ τ σ' τ' ∧ PlR t u y c σ' τ' ∧ F12_doOne_L120 (R12_doAll (D1 + 1)) (nI s) (nI (325 + 9 * s)) nn τ (nI i) = some ((), τ') ∧
      ((∃ M k', k ≤ k' ∧ k' ≤ 300 ∧ M ≤ 102 * (k' - k) + (m + 1) ∧ (∀ n, F4_run_L12 t r u y (n + M) σ (nI (p + 1)) (nI mx) = F4_run_L12 t r u y n σ' (nI (q1 + 1)) (nI (mx + M))) ∧ gB τ' 12 0 0 48 = false ∧ gI τ' 12 0 0 50 = nI k' ∧ ∀ j, j < p ∨ q1 + 1 ≤ j → gI σ' 4 t 1 j = gI σ 4 t 1 j) ∨
       (gB τ' 12 0 0 48 = true ∧ ∃ M, M ≤ 102 * (300 - k) + (m + 1) ∧ ∀ n, F4_run_L12 t r u y (n + M + 1) σ (nI (p + 1)) (nI mx) = some ((), σ'))) := by
  intro m
  induction m with
  | zero =>
    intro i him σ τ mx k nn e5 h h48 hk k3 hmx td hn
    obtain ⟨n1, rfl⟩ : ∃ n1, nn = n1 + 1 + 1 := ⟨nn - 2, by omega⟩
    obtain ⟨σ1, τ1, g1, p1, t1, o1⟩ := turn_1 (m := 0) (mx := mx) (i := i) hP6 hP hq he hse hpq hN hD b28 b5 e27 c1 e8 inn him e5 h h48 hk k3 (by omega) td
    have fin : F12_doOne_L120 (R12_doAll (D1 + 1)) (nI s) (nI (325 + 9 * s)) (n1 + 1 + 1) τ (nI i) = some ((), τ1) := by
      rw [t1, show i + 1 = N by omega]
      exact m_turn_end (by omega) (by rw [p1.1.2.2.2.2 _ (by omega)]; exact c1) (by omega) n1
    rcases o1 with ⟨M, k', a1, a2, a3, a4, a5, a6, a7, a8⟩ | ⟨a1, M, a2, a3⟩
    · exact ⟨σ1, τ1, g1, p1, fin, .inl ⟨M, k', a1, a2, by omega, fun n => by rw [a4, if_pos rfl], a5, a6, a8⟩⟩
    · exact ⟨σ1, τ1, g1, p1, fin, .inr ⟨a1, M, by omega, a3⟩⟩
  | succ m ih =>
    intro i him σ τ mx k nn e5 h h48 hk k3 hmx td hn
    obtain ⟨n1, rfl⟩ : ∃ n1, nn = n1 + 1 + 1 := ⟨nn - 2, by omega⟩
    obtain ⟨σ1, τ1, g1, p1, t1, o1⟩ := turn_1 (m := m + 1) (mx := mx) (i := i) hP6 hP hq he hse hpq hN hD b28 b5 e27 c1 e8 inn him e5 h h48 hk k3 (by omega) td
    rcases o1 with ⟨M, k', a1, a2, a3, a4, a5, a6, a7, a8⟩ | ⟨a1, M, a2, a3⟩
    · have e51 : gI σ1 5 r = ri := by rw [← e5]; funext j; exact g1.1.1.fI 5 r j (by decide)
      obtain ⟨σ2, τ2, g2, p2, f2, o2⟩ := ih (i + 1) (by omega) σ1 τ1 (mx + M) k' (n1 + 1) e51 p1 a5 a6 a2 (by omega) a7 (by omega)
      have a4' : ∀ n, F4_run_L12 t r u y (n + M) σ (nI (p + 1)) (nI mx) = F4_run_L12 t r u y n σ1 (nI (p + 1)) (nI (mx + M)) := fun n => by rw [a4, if_neg (by omega)]
      rcases o2 with ⟨M2, k2, b1, b2, b3, b4, b5, b6, b7⟩ | ⟨b1, M2, b2, b3⟩
      · refine ⟨σ2, τ2, g1.tr g2, p2, by rw [t1]; exact f2, .inl ⟨M2 + M, k2, by omega, b2, by omega, fun n => ?_, b5, b6, fun j hj => (b7 j hj).trans (a8 j hj)⟩⟩
        rw [← Nat.add_assoc, a4', b4, Nat.add_assoc, Nat.add_comm M M2]
      · refine ⟨σ2, τ2, g1.tr g2, p2, by rw [t1]; exact f2, .inr ⟨b1, M2 + M, by omega, fun n => ?_⟩⟩
        rw [show n + (M2 + M) + 1 = n + M2 + 1 + M by omega, a4']
        exact b3 n
    · refine ⟨σ1, τ1, g1, p1, ?_, .inr ⟨a1, M, by omega, a3⟩⟩
      rw [t1]
      exact m_turn_halt (by omega) (by rw [p1.1.2.2.2.2 _ (by omega)]; exact c1) (by omega) (by omega) a1 n1
theorem runIs_L {d1 s e e1 q q1 N : Nat} (hP6 : P ≤ 60) (hP : ri 0 2 = nI P) (hse : s < e1) (hee : e1 ≤ e) (hpq : p + 1 ≤ q1) (hqq : q1 + 1 ≤ q)
    (b28 : ri 1 q1 = 28) (b5 : ri 5 q1 = nI p) (e7 : c (325 + 9 * s) = 8) (e27 : ri 1 p = 27) (e2 : ri 2 p = nI N) (c1 : c (325 + 9 * s + 1) = nI N) (h1N : 1 ≤ N) (hN : N ≤ 99)
    (e8 : c (325 + 9 * s + 8) = nI e1) (inn : RunIs t r u y P c ri d1 (s + 1) e1 (p + 1) q1) (rest : RunIs t r u y P c ri (d1 + 1) e1 e (q1 + 1) q) : RunIs t r u y P c ri (d1 + 1) s e p q := by
  intro he hq D hD σ τ mx k e5 h h48 hk k3 hmx
  obtain ⟨D1, rfl⟩ : ∃ D1, D = D1 + 1 := ⟨D - 1, by omega⟩
  have ag := h.1.2.2.2.2
  have hP' : gI σ 5 r 0 2 = nI P := by rw [e5]; exact hP
  have step : ∀ (τ0 τ1 : Mem), gB τ0 12 0 0 48 = false → ∀ rc : Mem → Int32 → Option (Unit × Mem), rc τ0 (nI s) = some ((), τ1) → Agr c (gI τ1 12 0 5) → ∀ m, F12_doAll_L2 rc (nI e) (m + 1) τ0 (nI s) = F12_doAll_L2 rc (nI e) m τ1 (nI e1) := fun τ0 τ1 h0 rc o a m => m_all (by omega) (by omega) h0 o (by omega) (by rw [a _ (by omega)]; exact e8) m
  by_cases k0 : k = 300
  · subst k0
    obtain ⟨r1, r2, r3, r4⟩ := run_300 (s := s) (r := r) (mx := mx) h hk hP' (p := p) (by omega) hP6 (by omega) (by rw [e5, e27]; decide)
    refine ⟨_, _, ⟨plg_end, r3, .inr ⟨r4, 0, by omega, fun n => r1 n⟩⟩, fun m hm => ?_⟩
    obtain ⟨m', rfl⟩ : ∃ m', m = m' + 1 + 1 := ⟨m - 2, by omega⟩
    rw [step _ _ h48 _ (r2 _) r3.1.2.2.2.2]
    exact m_all_halt _ r4 m'
  have hc1 : gI σ 4 t 0 1 = nI k := h.2.1.1.trans hk
  have h1 : PlR t u y c (sI σ 4 t 0 1 (nI (k + 1))) (sI τ 12 0 0 50 (nI (k + 1))) := h.cnt 1 50 (.inr (.inr ⟨rfl, rfl⟩)) _
  have rl := run_loop (u := u) (y := y) (mx := mx) hc1 (by omega) hP' (p := p) (by omega) hP6 (by omega) (by rw [e5]; exact e27)
  rw [e5, e2] at rl
  have h2 : PlR t u y c (sI (sI σ 4 t 0 1 (nI (k + 1))) 4 t 1 p (nI N)) (sI τ 12 0 0 50 (nI (k + 1))) := h1.todo
  have g2 : PlG t y σ τ (sI (sI σ 4 t 0 1 (nI (k + 1))) 4 t 1 p (nI N)) (sI τ 12 0 0 50 (nI (k + 1))) := plg_cnt.tr plg_todo
  have w5 : gI (sI (sI σ 4 t 0 1 (nI (k + 1))) 4 t 1 p (nI N)) 5 r = ri := by rw [← e5]; funext j; rw [rI_a (by decide), rI_a (by decide)]
  have k50 : gI (sI τ 12 0 0 50 (nI (k + 1))) 12 0 0 50 = nI (k + 1) := rI_s
  have k48 : gB (sI τ 12 0 0 50 (nI (k + 1))) 12 0 0 48 = false := h48
  have tdp : gI (sI (sI σ 4 t 0 1 (nI (k + 1))) 4 t 1 p (nI N)) 4 t 1 p = nI N := rI_s
  have td1 : ∀ j, j ≠ p → gI (sI (sI σ 4 t 0 1 (nI (k + 1))) 4 t 1 p (nI N)) 4 t 1 j = gI σ 4 t 1 j := fun j hj => by rw [rI_n hj, rI_c (by decide)]
  obtain ⟨σ3, τ3, g3, p3, f3, o3⟩ := turns_L hP6 hP (by omega) (by omega) hse hpq hN (show d1 ≤ D1 by omega) b28 b5 e27 c1 e8 inn (N - 1) 0 (by omega) _ _ (mx + 1) (k + 1) fuelK w5 h2 k48 k50 (by omega) (by omega) (by rw [tdp, show N - 1 + 1 = N by omega]) (fuelK_lt (by omega))
  have doit : O12_doOne (R12_doAll (D1 + 1)) τ (nI s) = some ((), τ3) := by
    rw [m_loop hk (by omega) (by omega) (by rw [ag _ (by omega)]; exact e7), show (0 : Int32) = nI 0 from rfl, f3, bd_some]
  rcases o3 with ⟨M, k', a1, a2, a3, a4, a5, a6, a7⟩ | ⟨a1, M, a2, a3⟩
  · have e53 : gI σ3 5 r = ri := by rw [← w5]; funext j; exact g3.1.1.fI 5 r j (by decide)
    obtain ⟨σ4, τ4, d1', d2'⟩ := rest he hq (D1 + 1) hD σ3 τ3 (mx + (1 + M)) k' e53 p3 a5 a6 a2 (by omega)
    refine ⟨σ4, τ4, Ran.seq (M := 1 + M) (k' := k') (g2.tr g3) (by omega) hqq (by omega) a2 (by omega) (fun n => ?_) (fun j hj => (a7 j (by omega)).trans (td1 j (by omega))) d1', fun m hm => ?_⟩
    · rw [show n + (1 + M) = n + M + 1 by omega, rl, a4, Nat.add_assoc]
    · obtain ⟨m', rfl⟩ : ∃ m', m = m' + 1 := ⟨m - 1, by omega⟩
      rw [step _ _ h48 _ doit p3.1.2.2.2.2]
      exact d2' m' (by omega)
  · refine ⟨σ3, τ3, ⟨g2.tr g3, p3, .inr ⟨a1, M + 1, by omega, fun n => ?_⟩⟩, fun m hm => ?_⟩
    · rw [show n + (M + 1) + 1 = n + M + 1 + 1 by omega, rl]; exact a3 n
    · obtain ⟨m', rfl⟩ : ∃ m', m = m' + 1 + 1 := ⟨m - 2, by omega⟩
      rw [step _ _ h48 _ doit p3.1.2.2.2.2]
      exact m_all_halt _ a1 m'
/-- a round's stretch: both run over it alike -/
theorem run_seg (hP6 : P ≤ 60) (hP : ri 0 2 = nI P) : ∀ n d s e p q, Seg ri c n d s e p q → RunIs t r u y P c ri d s e p q := by
  intro n
  induction n with
  | zero =>
    intro d s e p q hs
    obtain ⟨rfl, rfl⟩ := hs
    exact runIs_z
  | succ n ih =>
    intro d s e p q hs
    unfold Seg at hs
    rcases hs with ⟨rfl, rfl⟩ | ⟨h1, ⟨h2, h3, h4⟩ | ⟨e1, q1, d1, rfl, h2, h3, h4, h5, h6, h7⟩⟩
    · exact runIs_z
    · exact runIs_S hP6 hP h1 (Seg_le _ _ _ _ _ _ h4) h2 h3 (ih _ _ _ _ _ h4)
    · have l1 := Seg_le _ _ _ _ _ _ h6
      have l2 := Seg_le _ _ _ _ _ _ h7
      obtain ⟨⟨b1, b2, b3⟩, ⟨w0, w1, w2, w3, w4, w5⟩ | ⟨w0, w1, w2, w3, w4⟩⟩ := h5
      · exact runIs_W hP6 hP h2 h3 l1 l2 b1 b2 b3 w0 w1 w2 w3 w5 h4 (ih _ _ _ _ _ h6) (ih _ _ _ _ _ h7)
      · have e1N : c (325 + 9 * s + 1) = nI (nat (c (325 + 9 * s + 1))) := nI_of32 (Int32.le_trans (by decide) w3)
        have hn := nat_i (c (325 + 9 * s + 1))
        have hl := i32_le.mp w3
        have hr := i32_le.mp w4
        have z1 : (1 : Int32).toInt = 1 := rfl
        have z99 : (99 : Int32).toInt = 99 := rfl
        exact runIs_L (N := nat (c (325 + 9 * s + 1))) hP6 hP h2 h3 l1 l2 b1 b2 w0 w1 (w2.trans e1N) e1N (by omega) (by omega) h4 (ih _ _ _ _ _ h6) (ih _ _ _ _ _ h7)
end PSC
