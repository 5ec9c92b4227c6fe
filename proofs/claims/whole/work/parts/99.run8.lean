/-! PURE. play, wins: the run over a stretch, a when first. -/
section PSB
variable {t r u y P : Nat} {c : Nat → Int32} {ri : VI}
theorem runIs_W {d1 s e e1 p q q1 : Nat} (hP6 : P ≤ 60) (hP : ri 0 2 = nI P) (hse : s < e1) (hee : e1 ≤ e) (hpq : p + 1 ≤ q1) (hqq : q1 + 1 ≤ q)
    (b28 : ri 1 q1 = 28) (b5 : ri 5 q1 = nI p) (b5' : ri 5 p = nI q1) (e7 : c (325 + 9 * s) = 7) (e23 : ri 1 p = 23) (e3 : ri 3 p = c (325 + 9 * s + 7)) (e4 : ri 4 p = c (325 + 9 * s + 2))
    (kk : (c (325 + 9 * s + 6) = 0 ∧ ∃ i, i < nat (c 6) ∧ ri 2 p = nI i ∧ c (325 + 9 * s + 1) = nI i) ∨ (c (325 + 9 * s + 6) = 1 ∧ ri 2 p = -1) ∨ (c (325 + 9 * s + 6) = 2 ∧ ri 2 p = -2))
    (e8 : c (325 + 9 * s + 8) = nI e1) (inn : RunIs t r u y P c ri d1 (s + 1) e1 (p + 1) q1) (rest : RunIs t r u y P c ri (d1 + 1) e1 e (q1 + 1) q) : RunIs t r u y P c ri (d1 + 1) s e p q := by
  intro he hq D hD σ τ mx k e5 h h48 hk k3 hmx
  obtain ⟨D1, rfl⟩ : ∃ D1, D = D1 + 1 := ⟨D - 1, by omega⟩
  have ag := h.1.2.2.2.2
  have hP' : gI σ 5 r 0 2 = nI P := by rw [e5]; exact hP
  have step : ∀ (τ0 τ1 : Mem), gB τ0 12 0 0 48 = false → ∀ rc : Mem → Int32 → Option (Unit × Mem), rc τ0 (nI s) = some ((), τ1) → Agr c (gI τ1 12 0 5) → ∀ m, F12_doAll_L2 rc (nI e) (m + 1) τ0 (nI s) = F12_doAll_L2 rc (nI e) m τ1 (nI e1) := fun τ0 τ1 h0 rc o a m => m_all (by omega) (by omega) h0 o (by omega) (by rw [a _ (by omega)]; exact e8) m
  by_cases k0 : k = 300
  · subst k0
    obtain ⟨r1, r2, r3, r4⟩ := run_300 (s := s) (r := r) (mx := mx) h hk hP' (p := p) (by omega) hP6 (by omega) (by rw [e5, e23]; decide)
    refine ⟨_, _, ⟨plg_end, r3, .inr ⟨r4, 0, by omega, fun n => r1 n⟩⟩, fun m hm => ?_⟩
    obtain ⟨m', rfl⟩ : ∃ m', m = m' + 1 + 1 := ⟨m - 2, by omega⟩
    rw [step _ _ h48 _ (r2 _) r3.1.2.2.2.2]
    exact m_all_halt _ r4 m'
  have hc1 : gI σ 4 t 0 1 = nI k := h.2.1.1.trans hk
  have h1 : PlR t u y c (sI σ 4 t 0 1 (nI (k + 1))) (sI τ 12 0 0 50 (nI (k + 1))) := h.cnt 1 50 (.inr (.inr ⟨rfl, rfl⟩)) _
  have w5 : gI (sI σ 4 t 0 1 (nI (k + 1))) 5 r = ri := by rw [← e5]; funext j; exact rI_a (by decide)
  have wc : gI (sI τ 12 0 0 50 (nI (k + 1))) 12 0 5 = gI τ 12 0 5 := rI_c (by decide)
  have k50 : gI (sI τ 12 0 0 50 (nI (k + 1))) 12 0 0 50 = nI (k + 1) := rI_s
  have k48 : gB (sI τ 12 0 0 50 (nI (k + 1))) 12 0 0 48 = false := h48
  obtain ⟨b, ho, so⟩ := pl_holds (r := r) (p := p) (w := 325 + 9 * s) h1 (by omega) (by omega) (by rw [w5, wc, ag _ (by omega)]; exact e3) (by rw [w5, wc, ag _ (by omega)]; exact e4) (by rw [w5, wc, ag (325 + 9 * s + 6) (by omega), ag 6 (by omega), ag (325 + 9 * s + 1) (by omega)]; exact kk)
  have rw1 := run_when (u := u) (mx := mx) hc1 (by omega) hP' (p := p) (q := q1) (by omega) hP6 (by omega) (by rw [e5]; exact e23) (by rw [e5]; exact b5') ho
  have mw := fun rec => m_when (rec := rec) hk (by omega) (by omega) (by rw [ag _ (by omega)]; exact e7) so
  have td1 : ∀ j, gI (sI σ 4 t 0 1 (nI (k + 1))) 4 t 1 j = gI σ 4 t 1 j := fun j => by rw [rI_c (by decide)]
  cases b with
  | false =>
    simp only [Bool.false_eq_true, if_false] at rw1 mw
    obtain ⟨σ2, τ2, b1, b2⟩ := rest he hq (D1 + 1) hD _ _ (mx + 1) (k + 1) w5 h1 k48 k50 (by omega) (by omega)
    refine ⟨σ2, τ2, Ran.seq (M := 1) (k' := k + 1) plg_cnt (by omega) hqq (by omega) (by omega) (by omega) rw1 (fun j _ => td1 j) b1, fun m hm => ?_⟩
    obtain ⟨m', rfl⟩ : ∃ m', m = m' + 1 := ⟨m - 1, by omega⟩
    rw [step _ _ h48 _ (mw _) h1.1.2.2.2.2]
    exact b2 m' (by omega)
  | true =>
    simp only [if_true] at rw1 mw
    obtain ⟨σ2, τ2, ⟨g2, p2, o2⟩, b2⟩ := inn (by omega) (by omega) D1 (by omega) _ _ (mx + 1) (k + 1) w5 h1 k48 k50 (by omega) (by omega)
    have doit : O12_doOne (R12_doAll (D1 + 1)) τ (nI s) = some ((), τ2) := by
      rw [mw, ag _ (by omega), e8]
      show bd (O12_doAll (fun s y => O12_doOne (R12_doAll D1) s y) (sI τ 12 0 0 50 (nI (k + 1))) (nI (s + 1)) (nI e1)) _ = _
      unfold O12_doAll
      rw [b2 fuelK (fuelK_lt (by omega)), bd_some, bd_some]
    rcases o2 with ⟨M, k', c1, c2, c3, c4, c5, c6, c7⟩ | ⟨c1, M, c2, c3⟩
    · have e52 : gI σ2 5 r = ri := by rw [← w5]; funext j; exact g2.1.1.fI 5 r j (by decide)
      obtain ⟨σ3, τ3, d1', d2'⟩ := rest he hq (D1 + 1) hD σ2 τ2 (mx + (1 + M + 1)) k' e52 p2 c5 c6 c2 (by omega)
      have endW := run_endW (t := t) (u := u) (y := y) (σ := σ2) (mx := mx + 1 + M) (by rw [e52]; exact hP) (q := q1) (by omega) hP6 (by omega) (by rw [e52]; exact b28) (by rw [e52]; exact b5) (p := p) (by omega) (by rw [e52, e23]; decide)
      refine ⟨σ3, τ3, Ran.seq (M := 1 + M + 1) (k' := k') (plg_cnt.tr g2) (by omega) hqq (by omega) c2 (by omega) (fun n => ?_) (fun j hj => (c7 j (by omega)).trans (td1 j)) d1', fun m hm => ?_⟩
      · rw [show n + (1 + M + 1) = n + 1 + M + 1 by omega, rw1, c4, endW, show mx + 1 + M + 1 = mx + (1 + M + 1) by omega]
      · obtain ⟨m', rfl⟩ : ∃ m', m = m' + 1 := ⟨m - 1, by omega⟩
        rw [step _ _ h48 _ doit p2.1.2.2.2.2]
        exact d2' m' (by omega)
    · refine ⟨σ2, τ2, ⟨plg_cnt.tr g2, p2, .inr ⟨c1, M + 1, by omega, fun n => ?_⟩⟩, fun m hm => ?_⟩
      · rw [show n + (M + 1) + 1 = n + M + 1 + 1 by omega, rw1]; exact c3 n
      · obtain ⟨m', rfl⟩ : ∃ m', m = m' + 1 + 1 := ⟨m - 2, by omega⟩
        rw [step _ _ h48 _ doit p2.1.2.2.2.2]
        exact m_all_halt _ c1 m'
end PSB
