/-! PURE. play, wins: the run, a simple step. -/
section PRU
variable {σ τ : Mem} {t u y r s p P x k : Nat} {c : Nat → Int32}
/-- what a run may change -/
def PlG (t y : Nat) (σ τ σ' τ' : Mem) : Prop :=
  (FC [4, 6, 7] σ σ' ∧ (∀ b, b ≠ y → TY σ' b = TY σ b) ∧ (∀ b i, b ≠ t → gI σ' 4 b i = gI σ 4 b i) ∧ gB σ' 4 = gB σ 4) ∧
  ((∀ j, j ∉ [28, 29, 30, 31, 49, 50, 51, 52, 53, 54, 55, 56, 57, 58, 59, 60] → gI τ' 12 0 0 j = gI τ 12 0 0 j) ∧ gL τ' 12 0 0 = gL τ 12 0 0 ∧ (∀ j, j ≠ 48 → gB τ' 12 0 0 j = gB τ 12 0 0 j) ∧ (∀ p, p ≠ 5 → p ≠ 0 → gI τ' 12 0 p = gI τ 12 0 p ∧ gL τ' 12 0 p = gL τ 12 0 p))
theorem run_S {mx : Nat} (h : PlR t u y c σ τ) (hk : gI τ 12 0 0 50 = nI k) (k3 : k < 300) (hs : s < 40) (hP : gI σ 5 r 0 2 = nI P) (hp : p < P) (hP6 : P ≤ 60) (hx : mx < 1000000)
    (st : StepS (gI σ 5 r) (gI τ 12 0 5) (325 + 9 * s) p) (hn : ¬ gI τ 12 0 5 (325 + 9 * s) = 9) :
    ∃ σ' τ', (∀ n, F4_run_L12 t r u y (n + 1) σ (nI p) (nI mx) = F4_run_L12 t r u y n σ' (nI (p + 1)) (nI (mx + 1))) ∧ (∀ rec, O12_doOne rec τ (nI s) = some ((), τ')) ∧
      PlR t u y c σ' τ' ∧ gI τ' 12 0 0 50 = nI (k + 1) ∧ FC [4, 6, 7] σ σ' ∧ gI σ' 4 t 1 = gI σ 4 t 1 ∧ PlF t y (sI σ 4 t 0 1 (nI (k + 1))) (sI τ 12 0 0 50 (nI (k + 1))) σ' τ' := by
  have hc1 : gI σ 4 t 0 1 = nI k := h.2.1.1.trans hk
  have h1 : PlR t u y c (sI σ 4 t 0 1 (nI (k + 1))) (sI τ 12 0 0 50 (nI (k + 1))) := h.cnt 1 50 (.inr (.inr ⟨rfl, rfl⟩)) _
  have w5 : ∀ j, gI (sI σ 4 t 0 1 (nI (k + 1))) 5 r j = gI σ 5 r j := fun j => rI_a (by decide)
  have wc : gI (sI τ 12 0 0 50 (nI (k + 1))) 12 0 5 = gI τ 12 0 5 := rI_c (by decide)
  have st1 : StepS (gI (sI σ 4 t 0 1 (nI (k + 1))) 5 r) (gI (sI τ 12 0 0 50 (nI (k + 1))) 12 0 5) (325 + 9 * s) p := by
    rw [wc, show gI (sI σ 4 t 0 1 (nI (k + 1))) 5 r = gI σ 5 r from funext w5]; exact st
  obtain ⟨σ', τ', b, d1, d2, d3, d4, d5⟩ := pl_does h1 (by omega) (by omega) st1 (by rw [wc]; exact hn)
  have kinds : ¬ gI σ 5 r 1 p = 28 ∧ ¬ gI σ 5 r 1 p = 29 ∧ ¬ gI σ 5 r 1 p = 23 ∧ ¬ (7 : Int32) ≤ gI τ 12 0 5 (325 + 9 * s) := by
    rcases st with ⟨e0, e1, -⟩ | ⟨e0, e1, -⟩ | ⟨e0, e1, -⟩ | ⟨e0, e1, -⟩ | ⟨e0, e1, -⟩ | ⟨e0, e1⟩ | ⟨e0, e1⟩ | ⟨e0, -⟩
    · rw [e0, e1]; decide
    · rw [e0, e1]; decide
    · rw [e0, e1]; decide
    · rw [e0, e1]; decide
    · rw [e0, e1]; decide
    · rw [e0, e1]; decide
    · rw [e0, e1]; decide
    · exact absurd e0 hn
  obtain ⟨n28, n29, n23, n7⟩ := kinds
  refine ⟨σ', _, fun n => ?_, fun rec => ?_, d5, ?_, (FC.I (by decide)).t d3.1.1, ?_, d3.t (plf_m (by decide))⟩
  · simp only [F4_run_L12.eq_2]
    rw [if_neg (show ¬ (1000000 : Int32) ≤ nI mx from nI_ge (a := mx) (b := 1000000) (by omega) (by omega)), if_neg (nI_pos (by omega)), hP, if_neg (nI_ge (by omega) (by omega)), ald_nI (by omega) (by omega), Option.bind_some, if_neg n28, hc1, if_pos (show nI k < (300 : Int32) from nI_lt (b := 300) (by omega) (by omega)), bnd_eq, if_neg n29, if_neg n23, nI_1, d1, bd_some, nI_1, nI_1]
  · unfold O12_doOne
    rw [hk, if_neg (show ¬ nI k = (300 : Int32) from fun e => by have := (nI_eq (a := k) (b := 300) (by omega) (by omega)).mp e; omega), bnd_eq, bnd_eq, nI_1, show (325 : Int32) + 9 * nI s = nI (325 + 9 * s) by rw [show (9 : Int32) = nI 9 from rfl, pk_mul]; exact nI_add 325 (9 * s), wc, ald_nI (by omega) (by omega), Option.bind_some, if_neg n7, d2, bd_some]
    cases b with
    | true => rw [if_pos rfl, bnd_eq, if_pos rfl]
    | false => rw [if_neg (by decide), bnd_eq, if_neg (by decide)]
  · rw [rI_n (by decide), d3.2.1 50 (by decide)]; exact rI_s
  · rw [d3.1.2.2.1 t 1 (.inr rfl)]; exact rI_c (by decide)
end PRU
