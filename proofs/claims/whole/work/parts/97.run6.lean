/-! PURE. play, wins: how a run over a stretch of the round comes out. -/
/-- from place p, after mx moves and k steps: it comes to q, or it has ended -/
def Ran (t r u y : Nat) (c : Nat → Int32) (σ τ : Mem) (p q mx k : Nat) (σ' τ' : Mem) : Prop :=
  PlG t y σ τ σ' τ' ∧ PlR t u y c σ' τ' ∧
  ((∃ M k', k ≤ k' ∧ k' ≤ 300 ∧ M ≤ 102 * (k' - k) ∧ (∀ n, F4_run_L12 t r u y (n + M) σ (nI p) (nI mx) = F4_run_L12 t r u y n σ' (nI q) (nI (mx + M))) ∧ gB τ' 12 0 0 48 = false ∧ gI τ' 12 0 0 50 = nI k' ∧ (∀ j, j < p ∨ q ≤ j → gI σ' 4 t 1 j = gI σ 4 t 1 j)) ∨
   (gB τ' 12 0 0 48 = true ∧ ∃ M, M ≤ 102 * (300 - k) ∧ ∀ n, F4_run_L12 t r u y (n + M + 1) σ (nI p) (nI mx) = some ((), σ')))
section PRZ
variable {σ τ σ1 τ1 σ2 τ2 : Mem} {t r u y p p1 q mx k : Nat} {c : Nat → Int32}
theorem Ran.z (h : PlR t u y c σ τ) (h48 : gB τ 12 0 0 48 = false) (hk : gI τ 12 0 0 50 = nI k) (k3 : k ≤ 300) : Ran t r u y c σ τ p p mx k σ τ :=
  ⟨PlG.z, h, .inl ⟨0, k, Nat.le_refl k, k3, by omega, fun _ => rfl, h48, hk, fun _ _ => rfl⟩⟩
/-- one stretch, then the next -/
theorem Ran.seq {M k' : Nat} (g : PlG t y σ τ σ1 τ1) (hp : p ≤ p1) (hq : p1 ≤ q) (k1 : k ≤ k') (k2 : k' ≤ 300) (hM : M ≤ 102 * (k' - k)) (hr : ∀ n, F4_run_L12 t r u y (n + M) σ (nI p) (nI mx) = F4_run_L12 t r u y n σ1 (nI p1) (nI (mx + M)))
    (td : ∀ j, j < p ∨ p1 ≤ j → gI σ1 4 t 1 j = gI σ 4 t 1 j) (h : Ran t r u y c σ1 τ1 p1 q (mx + M) k' σ2 τ2) : Ran t r u y c σ τ p q mx k σ2 τ2 := by
  obtain ⟨g1, h1, h2⟩ := h
  refine ⟨g.tr g1, h1, ?_⟩
  rcases h2 with ⟨M2, k3, a1, a2, a3, a4, a5, a6, a7⟩ | ⟨b1, M2, b2, b3⟩
  · refine .inl ⟨M2 + M, k3, by omega, a2, by omega, fun n => ?_, a5, a6, fun j hj => (a7 j (by omega)).trans (td j (by omega))⟩
    rw [← Nat.add_assoc, hr, a4, Nat.add_assoc, Nat.add_comm M M2]
  · refine .inr ⟨b1, M2 + M, by omega, fun n => ?_⟩
    rw [show n + (M2 + M) + 1 = n + M2 + 1 + M by omega, hr]
    exact b3 n
end PRZ
