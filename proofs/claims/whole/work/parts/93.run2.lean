/-! PURE. play, wins: the run's ends: 300 steps, stop. -/
section PRV
variable {σ τ : Mem} {t u y r s p P k mx : Nat} {c : Nat → Int32}
theorem PlR.end6 (h : PlR t u y c σ τ) (b : Bool) : PlR t u y c (sI σ 4 t 0 6 1) (sI (sB τ 12 0 0 48 b) 12 0 0 55 1) := by
  have hh := h
  obtain ⟨⟨k1, k2, k3, k4, k5⟩, ⟨a1, a2, a3, a4, a5, a6⟩, ⟨k, kr, kc, km⟩, ⟨q, qc, qm, qq⟩, ⟨b1, b2⟩, ⟨g1, g2, g3⟩, g4⟩ := h
  have z6 : ∀ l, gI (sI σ 4 t 0 6 1) 6 (1 + t) 0 l = gI σ 6 (1 + t) 0 l := fun l => by rw [rI_a (by decide)]
  have zy : TY (sI σ 4 t 0 6 1) y = TY σ y := by simp (disch := decide) only [TY, rI_a]
  have z4 : ∀ l, l ≠ 6 → gI (sI σ 4 t 0 6 1) 4 t 0 l = gI σ 4 t 0 l := fun l hl => rI_n hl
  have zm : ∀ l, l ≠ 55 → gI (sI (sB τ 12 0 0 48 b) 12 0 0 55 1) 12 0 0 l = gI τ 12 0 0 l := fun l hl => by rw [rI_n hl, gI_sB]
  refine hh.up (c1 := gI τ 12 0 5) (FC.I (by decide)) (by rw [rI_c (by decide), gI_sB]) Agr.z (by rw [zy]; exact k4) ⟨?_, ?_, ?_, ?_, ?_, ?_⟩ ⟨k, kr, ?_, ?_⟩ ⟨q, ?_, ?_, qq⟩ ⟨?_, ?_⟩ ⟨?_, ?_, ?_⟩ ?_
  · rw [z4 _ (by decide), zm _ (by decide)]; exact a1
  · rw [z4 _ (by decide), zm _ (by decide)]; exact a2
  · rw [z4 _ (by decide), zm _ (by decide)]; exact a3
  · rw [z4 _ (by decide), zm _ (by decide)]; exact a4
  · rw [z4 _ (by decide), zm _ (by decide)]; exact a5
  · rw [rI_s, rI_s]
  · rw [z4 _ (by decide)]; exact kc
  · rw [zm _ (by decide)]; exact km
  · rw [z6]; exact qc
  · rw [zm _ (by decide)]; exact qm
  · rw [z6, zm _ (by decide)]; exact b1
  · rw [z6, zm _ (by decide)]; exact b2
  · rw [z4 _ (by decide), zm _ (by decide)]; exact g1
  · rw [zm _ (by decide)]; exact g2
  · rw [zm _ (by decide)]; exact g3
  · rw [z4 _ (by decide), zm _ (by decide)]; exact g4
theorem PlR.sB48 (h : PlR t u y c σ τ) (b : Bool) : PlR t u y c σ (sB τ 12 0 0 48 b) := by
  unfold PlR at h ⊢
  simp only [gI_sB]
  exact h
/-- a step at 300: the run ends -/
theorem run_300 (h : PlR t u y c σ τ) (hk : gI τ 12 0 0 50 = nI 300) (hP : gI σ 5 r 0 2 = nI P) (hp : p < P) (hP6 : P ≤ 60) (hx : mx < 1000000) (n28 : ¬ gI σ 5 r 1 p = 28) :
    (∀ n, F4_run_L12 t r u y (n + 1) σ (nI p) (nI mx) = some ((), sI σ 4 t 0 6 1)) ∧ (∀ rec, O12_doOne rec τ (nI s) = some ((), sI (sB τ 12 0 0 48 true) 12 0 0 55 1)) ∧
      PlR t u y c (sI σ 4 t 0 6 1) (sI (sB τ 12 0 0 48 true) 12 0 0 55 1) ∧ gB (sI (sB τ 12 0 0 48 true) 12 0 0 55 1) 12 0 0 48 = true := by
  have hc1 : gI σ 4 t 0 1 = nI 300 := h.2.1.1.trans hk
  refine ⟨fun n => ?_, fun rec => ?_, h.end6 true, by rw [gB_sI, rB_s]⟩
  · simp only [F4_run_L12.eq_2]
    rw [if_neg (show ¬ (1000000 : Int32) ≤ nI mx from nI_ge (a := mx) (b := 1000000) (by omega) (by omega)), if_neg (nI_pos (by omega)), hP, if_neg (nI_ge (by omega) (by omega)), ald_nI (by omega) (by omega), Option.bind_some, if_neg n28, hc1, if_neg (show ¬ nI 300 < (300 : Int32) by decide), bnd_eq]
  · unfold O12_doOne
    rw [hk, if_pos (show nI 300 = (300 : Int32) from rfl), bnd_eq, bnd_eq]
/-- a stop: the run ends -/
theorem run_stop (h : PlR t u y c σ τ) (hk : gI τ 12 0 0 50 = nI k) (k3 : k < 300) (hs : s < 40) (hP : gI σ 5 r 0 2 = nI P) (hp : p < P) (hP6 : P ≤ 60) (hx : mx < 1000000)
    (e9 : gI τ 12 0 5 (325 + 9 * s) = 9) (e29 : gI σ 5 r 1 p = 29) :
    (∀ n, F4_run_L12 t r u y (n + 1) σ (nI p) (nI mx) = some ((), sI σ 4 t 0 1 (nI (k + 1)))) ∧ (∀ rec, O12_doOne rec τ (nI s) = some ((), sB (sI τ 12 0 0 50 (nI (k + 1))) 12 0 0 48 true)) ∧
      PlR t u y c (sI σ 4 t 0 1 (nI (k + 1))) (sB (sI τ 12 0 0 50 (nI (k + 1))) 12 0 0 48 true) ∧ gB (sB (sI τ 12 0 0 50 (nI (k + 1))) 12 0 0 48 true) 12 0 0 48 = true := by
  have hc1 : gI σ 4 t 0 1 = nI k := h.2.1.1.trans hk
  have wc : gI (sI τ 12 0 0 50 (nI (k + 1))) 12 0 5 = gI τ 12 0 5 := rI_c (by decide)
  refine ⟨fun n => ?_, fun rec => ?_, (h.cnt 1 50 (.inr (.inr ⟨rfl, rfl⟩)) _).sB48 true, rB_s⟩
  · simp only [F4_run_L12.eq_2]
    rw [if_neg (show ¬ (1000000 : Int32) ≤ nI mx from nI_ge (a := mx) (b := 1000000) (by omega) (by omega)), if_neg (nI_pos (by omega)), hP, if_neg (nI_ge (by omega) (by omega)), ald_nI (by omega) (by omega), Option.bind_some, e29, if_neg (show ¬ (29 : Int32) = 28 by decide), hc1, if_pos (show nI k < (300 : Int32) from nI_lt (b := 300) (by omega) (by omega)), bnd_eq, if_pos rfl, nI_1]
  · unfold O12_doOne
    rw [hk, if_neg (show ¬ nI k = (300 : Int32) from fun e => by have := (nI_eq (a := k) (b := 300) (by omega) (by omega)).mp e; omega), bnd_eq, bnd_eq, nI_1, show (325 : Int32) + 9 * nI s = nI (325 + 9 * s) by rw [show (9 : Int32) = nI 9 from rfl, pk_mul]; exact nI_add 325 (9 * s), wc, ald_nI (by omega) (by omega), Option.bind_some, e9, if_pos (show (7 : Int32) ≤ 9 by decide), if_neg (show ¬ (9 : Int32) = 7 by decide)]
    unfold F12_doOne_p111
    rw [if_neg (show ¬ (9 : Int32) = 8 by decide), if_neg (show ¬ (9 : Int32) ≤ 8 by decide), bnd_eq]
end PRV
