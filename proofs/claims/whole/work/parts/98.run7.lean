/-! PURE. play, wins: the run over a stretch. -/
section PSA
variable {t r u y P : Nat} {c : Nat → Int32} {ri : VI}
theorem stepS_n28 {w p : Nat} (st : StepS ri c w p) : ¬ ri 1 p = 28 := by
  rcases st with ⟨-, e1, -⟩ | ⟨-, e1, -⟩ | ⟨-, e1, -⟩ | ⟨-, e1, -⟩ | ⟨-, e1, -⟩ | ⟨-, e1⟩ | ⟨-, e1⟩ | ⟨-, e1⟩ <;> rw [e1] <;> decide
theorem stepS_29 {w p : Nat} (st : StepS ri c w p) (h : c w = 9) : ri 1 p = 29 := by
  rcases st with ⟨e0, -⟩ | ⟨e0, -⟩ | ⟨e0, -⟩ | ⟨e0, -⟩ | ⟨e0, -⟩ | ⟨e0, -⟩ | ⟨e0, -⟩ | ⟨-, e1⟩
  · rw [h] at e0; exact absurd e0 (by decide)
  · rw [h] at e0; exact absurd e0 (by decide)
  · rw [h] at e0; exact absurd e0 (by decide)
  · rw [h] at e0; exact absurd e0 (by decide)
  · rw [h] at e0; exact absurd e0 (by decide)
  · rw [h] at e0; exact absurd e0 (by decide)
  · rw [h] at e0; exact absurd e0 (by decide)
  · exact e1
/-- what run_seg says of a stretch -/
def RunIs (t r u y P : Nat) (c : Nat → Int32) (ri : VI) (d s e p q : Nat) : Prop :=
  e ≤ 30 → q ≤ P → ∀ D, d ≤ D → ∀ σ τ mx k, gI σ 5 r = ri → PlR t u y c σ τ → gB τ 12 0 0 48 = false → gI τ 12 0 0 50 = nI k → k ≤ 300 → mx ≤ 102 * k →
    ∃ σ' τ', Ran t r u y c σ τ p q mx k σ' τ' ∧ ∀ m, e - s < m → F12_doAll_L2 (fun s y => O12_doOne (R12_doAll D) s y) (nI e) m τ (nI s) = some ((), τ')
theorem runIs_z {d s p : Nat} : RunIs t r u y P c ri d s s p p := by
  intro he hq D hD σ τ mx k e5 h h48 hk k3 hmx
  refine ⟨σ, τ, Ran.z h h48 hk k3, fun m hm => ?_⟩
  obtain ⟨m', rfl⟩ : ∃ m', m = m' + 1 := ⟨m - 1, by omega⟩
  exact m_all_end m'
theorem runIs_S {d s e p q : Nat} (hP6 : P ≤ 60) (hP : ri 0 2 = nI P) (hse : s < e) (hpq : p + 1 ≤ q) (st : StepS ri c (325 + 9 * s) p) (e8 : c (325 + 9 * s + 8) = nI (s + 1)) (ih : RunIs t r u y P c ri d (s + 1) e (p + 1) q) : RunIs t r u y P c ri d s e p q := by
  intro he hq D hD σ τ mx k e5 h h48 hk k3 hmx
  have ag := h.1.2.2.2.2
  have st' : StepS (gI σ 5 r) (gI τ 12 0 5) (325 + 9 * s) p := by rw [e5]; exact st.agr ag (by omega)
  have hP' : gI σ 5 r 0 2 = nI P := by rw [e5]; exact hP
  have step : ∀ τ1, PlR t u y c σ τ → ∀ rc : Mem → Int32 → Option (Unit × Mem), rc τ (nI s) = some ((), τ1) → Agr c (gI τ1 12 0 5) → ∀ m, F12_doAll_L2 rc (nI e) (m + 1) τ (nI s) = F12_doAll_L2 rc (nI e) m τ1 (nI (s + 1)) := fun τ1 _ rc o a m => m_all hse (by omega) h48 o (by omega) (by rw [a _ (by omega)]; exact e8) m
  by_cases k0 : k = 300
  · subst k0
    obtain ⟨r1, r2, r3, r4⟩ := run_300 (s := s) (r := r) (mx := mx) h hk hP' (p := p) (by omega) hP6 (by omega) (stepS_n28 st')
    refine ⟨_, _, ⟨plg_end, r3, .inr ⟨r4, 0, by omega, fun n => r1 n⟩⟩, fun m hm => ?_⟩
    obtain ⟨m', rfl⟩ : ∃ m', m = m' + 1 + 1 := ⟨m - 2, by omega⟩
    rw [step _ h _ (r2 _) r3.1.2.2.2.2]
    exact m_all_halt _ r4 m'
  by_cases k9 : gI τ 12 0 5 (325 + 9 * s) = 9
  · obtain ⟨r1, r2, r3, r4⟩ := run_stop (s := s) (r := r) (mx := mx) h hk (by omega) (by omega) hP' (p := p) (by omega) hP6 (by omega) k9 (stepS_29 st' k9)
    refine ⟨_, _, ⟨plg_cnt.tr plg_48, r3, .inr ⟨r4, 0, by omega, fun n => r1 n⟩⟩, fun m hm => ?_⟩
    obtain ⟨m', rfl⟩ : ∃ m', m = m' + 1 + 1 := ⟨m - 2, by omega⟩
    rw [step _ h _ (r2 _) r3.1.2.2.2.2]
    exact m_all_halt _ r4 m'
  · obtain ⟨σ1, τ1, a1, a2, a3, a4, a5, a6, a7⟩ := run_S (s := s) (r := r) (mx := mx) h hk (by omega) (by omega) hP' (p := p) (by omega) hP6 (by omega) st' k9
    have g1 : PlG t y σ τ σ1 τ1 := plg_cnt.tr a7.G
    have e51 : gI σ1 5 r = ri := by rw [← e5]; funext j; exact a5.fI 5 r j (by decide)
    have b48 : gB τ1 12 0 0 48 = false := by rw [a7.2.2.2.1]; exact h48
    obtain ⟨σ2, τ2, b1, b2⟩ := ih he hq D hD σ1 τ1 (mx + 1) (k + 1) e51 a3 b48 a4 (by omega) (by omega)
    refine ⟨σ2, τ2, Ran.seq (M := 1) (k' := k + 1) g1 (by omega) hpq (by omega) (by omega) (by omega) a1 (fun j _ => by rw [a6]) b1, fun m hm => ?_⟩
    obtain ⟨m', rfl⟩ : ∃ m', m = m' + 1 := ⟨m - 1, by omega⟩
    rw [step _ h _ (a2 _) a3.1.2.2.2.2]
    exact b2 m' (by omega)
end PSA
