/-! PURE. play, wins: the frame of a run. -/
section PRY
variable {σ τ σ1 τ1 σ2 τ2 : Mem} {t y : Nat}
theorem PlG.z : PlG t y σ τ σ τ := ⟨⟨FC.z, fun _ _ => rfl, fun _ _ _ => rfl, rfl⟩, fun _ _ => rfl, rfl, fun _ _ => rfl, fun _ _ _ => ⟨rfl, rfl⟩⟩
theorem PlG.tr (h : PlG t y σ τ σ1 τ1) (k : PlG t y σ1 τ1 σ2 τ2) : PlG t y σ τ σ2 τ2 := by
  obtain ⟨⟨h1, h2, h3, h4⟩, h5, h6, h7, h8⟩ := h
  obtain ⟨⟨k1, k2, k3, k4⟩, k5, k6, k7, k8⟩ := k
  exact ⟨⟨h1.t k1, fun b hb => (k2 b hb).trans (h2 b hb), fun b i hb => (k3 b i hb).trans (h3 b i hb), k4.trans h4⟩, fun j hj => (k5 j hj).trans (h5 j hj), k6.trans h6, fun j hj => (k7 j hj).trans (h7 j hj), fun p hp h0 => ⟨(k8 p hp h0).1.trans (h8 p hp h0).1, (k8 p hp h0).2.trans (h8 p hp h0).2⟩⟩
theorem PlF.G (f : PlF t y σ τ σ1 τ1) : PlG t y σ τ σ1 τ1 := by
  obtain ⟨⟨h1, h2, h3, h4⟩, g1, g2, g3, g4⟩ := f
  have sub : ∀ j, j ∈ [28, 29, 30, 31, 49, 51, 52, 53, 54, 55, 56, 57, 58, 59, 60] → j ∈ [28, 29, 30, 31, 49, 50, 51, 52, 53, 54, 55, 56, 57, 58, 59, 60] := by decide
  exact ⟨⟨h1, h2, fun b i hb => h3 b i (.inl hb), h4⟩, fun j hj => g1 j (fun e => hj (sub j e)), funext fun j => g2 j List.not_mem_nil, fun j _ => by rw [g3], fun p hp h0 => g4 p (fun e => hp (List.mem_singleton.mp e)) h0⟩
/-- the class's count of steps, the model's -/
theorem plg_cnt {v w : Int32} : PlG t y σ τ (sI σ 4 t 0 1 v) (sI τ 12 0 0 50 w) := by
  refine ⟨⟨FC.I (by decide), fun b _ => by simp (disch := decide) only [TY, rI_a], fun b i hb => g4_ne (.inl hb), rfl⟩, fun j hj => rI_n (fun e => hj (by subst e; decide)), rfl, fun _ _ => rfl, fun p _ h0 => ⟨rI_c h0, rfl⟩⟩
theorem plg_todo {p : Nat} {v : Int32} : PlG t y σ τ (sI σ 4 t 1 p v) τ := by
  refine ⟨⟨FC.I (by decide), fun b _ => by simp (disch := decide) only [TY, rI_a], fun b i hb => ?_, rfl⟩, fun _ _ => rfl, rfl, fun _ _ => rfl, fun _ _ _ => ⟨rfl, rfl⟩⟩
  simp [gI_sI, hb]
theorem plg_end {b : Bool} {v w : Int32} : PlG t y σ τ (sI σ 4 t 0 6 v) (sI (sB τ 12 0 0 48 b) 12 0 0 55 w) := by
  refine ⟨⟨FC.I (by decide), fun b _ => by simp (disch := decide) only [TY, rI_a], fun b i hb => g4_ne (.inl hb), rfl⟩, fun j hj => by rw [rI_n (fun e => hj (by subst e; decide)), gI_sB], rfl, fun j hj => by rw [gB_sI, rB_n hj], fun p _ h0 => ⟨by rw [rI_c h0, gI_sB], rfl⟩⟩
theorem plg_48 {b : Bool} : PlG t y σ τ σ (sB τ 12 0 0 48 b) := by
  refine ⟨⟨FC.z, fun _ _ => rfl, fun _ _ _ => rfl, rfl⟩, fun j _ => by rw [gI_sB], rfl, fun j hj => rB_n hj, fun p _ _ => ⟨by rw [gI_sB], rfl⟩⟩
end PRY
