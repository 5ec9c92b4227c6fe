/-! PURE. play, wins: one shot of a game, whole. -/
section PSI
variable {σ τ σ' τ' : Mem} {t u y s : Nat} {c : Nat → Int32}
theorem PlR.rnd (h : PlR t u y c σ τ) {k : Nat} (hk : k < 65536) : PlR t u y c (sI σ 4 t 0 7 (nI k)) (sI τ 12 0 0 49 (nI k)) ∧ PlF t y σ τ (sI σ 4 t 0 7 (nI k)) (sI τ 12 0 0 49 (nI k)) := by
  have hh := h
  obtain ⟨⟨k1, k2, k3, k4, k5⟩, ⟨a1, a2, a3, a4, a5, a6⟩, -, ⟨q1, qc, qm, qq⟩, ⟨b1, b2⟩, ⟨g1, g2, g3⟩, g4⟩ := h
  have z6 : ∀ j, gI (sI σ 4 t 0 7 (nI k)) 6 (1 + t) 0 j = gI σ 6 (1 + t) 0 j := fun j => by rw [rI_a (by decide)]
  have zy : ∀ b, TY (sI σ 4 t 0 7 (nI k)) b = TY σ b := fun b => by simp (disch := decide) only [TY, rI_a]
  have z4 : ∀ j, j ≠ 7 → gI (sI σ 4 t 0 7 (nI k)) 4 t 0 j = gI σ 4 t 0 j := fun j hj => rI_n hj
  have zm : ∀ j, j ≠ 49 → gI (sI τ 12 0 0 49 (nI k)) 12 0 0 j = gI τ 12 0 0 j := fun j hj => rI_n hj
  refine ⟨hh.up (c1 := gI τ 12 0 5) (FC.I (by decide)) (by rw [rI_c (by decide)]) Agr.z (by rw [zy]; exact k4) ⟨?_, ?_, ?_, ?_, ?_, ?_⟩ ⟨k, hk, rI_s, rI_s⟩ ⟨q1, ?_, ?_, qq⟩ ⟨?_, ?_⟩ ⟨?_, ?_, ?_⟩ ?_, ⟨FC.I (by decide), fun b _ => zy b, fun b i hb => g4_ne hb, rfl⟩, FM.I (by decide)⟩
  · rw [z4 _ (by decide), zm _ (by decide)]; exact a1
  · rw [z4 _ (by decide), zm _ (by decide)]; exact a2
  · rw [z4 _ (by decide), zm _ (by decide)]; exact a3
  · rw [z4 _ (by decide), zm _ (by decide)]; exact a4
  · rw [z4 _ (by decide), zm _ (by decide)]; exact a5
  · rw [z4 _ (by decide), zm _ (by decide)]; exact a6
  · rw [z6]; exact qc
  · rw [zm _ (by decide)]; exact qm
  · rw [z6, zm _ (by decide)]; exact b1
  · rw [z6, zm _ (by decide)]; exact b2
  · rw [z4 _ (by decide), zm _ (by decide)]; exact g1
  · rw [zm _ (by decide)]; exact g2
  · rw [zm _ (by decide)]; exact g3
  · rw [z4 _ (by decide), zm _ (by decide)]; exact g4
/-- one of the counts that both keep goes up by one: the class's field i, the model's number j -/
theorem PlR.cnt (h : PlR t u y c σ τ) (i j : Nat) (hij : (i = 2 ∧ j = 51) ∨ (i = 4 ∧ j = 53) ∨ (i = 1 ∧ j = 50)) (v : Int32) : PlR t u y c (sI σ 4 t 0 i v) (sI τ 12 0 0 j v) := by
  have hh := h
  obtain ⟨⟨k1, k2, k3, k4, k5⟩, ⟨a1, a2, a3, a4, a5, a6⟩, ⟨k, kr, kc, km⟩, ⟨q1, qc, qm, qq⟩, ⟨b1, b2⟩, ⟨g1, g2, g3⟩, g4⟩ := h
  have z6 : ∀ l, gI (sI σ 4 t 0 i v) 6 (1 + t) 0 l = gI σ 6 (1 + t) 0 l := fun l => by rw [rI_a (by decide)]
  have zy : ∀ b, TY (sI σ 4 t 0 i v) b = TY σ b := fun b => by simp (disch := decide) only [TY, rI_a]
  have zz : ∀ l m, l ≠ i → m ≠ j → gI σ 4 t 0 l = gI τ 12 0 0 m → gI (sI σ 4 t 0 i v) 4 t 0 l = gI (sI τ 12 0 0 j v) 12 0 0 m := fun l m hl hm e => by rw [rI_n hl, rI_n hm, e]
  have zm : ∀ m, m ≠ j → gI (sI τ 12 0 0 j v) 12 0 0 m = gI τ 12 0 0 m := fun m hm => rI_n hm
  have z4 : ∀ l, l ≠ i → gI (sI σ 4 t 0 i v) 4 t 0 l = gI σ 4 t 0 l := fun l hl => rI_n hl
  have ss : gI (sI σ 4 t 0 i v) 4 t 0 i = gI (sI τ 12 0 0 j v) 12 0 0 j := by rw [rI_s, rI_s]
  refine hh.up (c1 := gI τ 12 0 5) (FC.I (by decide)) (by rw [rI_c (by decide)]) Agr.z (by rw [zy]; exact k4) ?_ ⟨k, kr, ?_, ?_⟩ ⟨q1, ?_, ?_, qq⟩ ⟨?_, ?_⟩ ⟨?_, ?_, ?_⟩ ?_
  · rcases hij with ⟨rfl, rfl⟩ | ⟨rfl, rfl⟩ | ⟨rfl, rfl⟩
    · exact ⟨zz _ _ (by decide) (by decide) a1, ss, zz _ _ (by decide) (by decide) a3, zz _ _ (by decide) (by decide) a4, zz _ _ (by decide) (by decide) a5, zz _ _ (by decide) (by decide) a6⟩
    · exact ⟨zz _ _ (by decide) (by decide) a1, zz _ _ (by decide) (by decide) a2, zz _ _ (by decide) (by decide) a3, ss, zz _ _ (by decide) (by decide) a5, zz _ _ (by decide) (by decide) a6⟩
    · exact ⟨ss, zz _ _ (by decide) (by decide) a2, zz _ _ (by decide) (by decide) a3, zz _ _ (by decide) (by decide) a4, zz _ _ (by decide) (by decide) a5, zz _ _ (by decide) (by decide) a6⟩
  · rw [z4 _ (by omega)]; exact kc
  · rw [zm _ (by omega)]; exact km
  · rw [z6]; exact qc
  · rw [zm _ (by omega)]; exact qm
  · rw [z6, zm _ (by omega)]; exact b1
  · rw [z6, zm _ (by omega)]; exact b2
  · rw [z4 _ (by omega), zm _ (by omega)]; exact g1
  · rw [zm _ (by omega)]; exact g2
  · rw [zm _ (by omega)]; exact g3
  · rw [z4 _ (by omega), zm _ (by omega)]; exact g4
theorem plf_4 {j : Nat} {v : Int32} : PlF t y σ τ (sI σ 4 t 0 j v) τ := by
  exact ⟨⟨FC.I (by decide), fun b _ => by simp (disch := decide) only [TY, rI_a], fun b i hb => g4_ne hb, rfl⟩, FM.z⟩
theorem plf_6 {σ9 τ7 : Mem} (f : FC [6] σ σ9) (g : FM [28, 29, 30, 31] [] [] τ τ7) : PlF t y σ τ σ9 τ7 := by
  refine ⟨⟨f.m (by decide), fun b _ => by simp (disch := decide) only [TY, f.fI 7 b _ (show 7 ∉ [6] by decide)], fun b i _ => ?_, ?_⟩, g.m (by decide) (by decide) (by decide)⟩
  · rw [f.fI 4 b i (by decide)]
  · funext b i; rw [f.fB 4 b i (by decide)]
/-- the shot is made ready and reckoned, the pea's numbers found -/
theorem PlR.six (h : PlR t u y c σ τ) {σ9 τ7 : Mem} (f : FC [6] σ σ9) (g : FM [28, 29, 30, 31] [] [] τ τ7) (e1 : gI σ9 6 (1 + t) 0 1 = gI σ 6 (1 + t) 0 1) (e4 : gI σ9 6 (1 + t) 0 4 = gI σ 6 (1 + t) 0 4) (e5 : gI σ9 6 (1 + t) 0 5 = gI σ 6 (1 + t) 0 5) : PlR t u y c σ9 τ7 := by
  have hh := h
  obtain ⟨⟨k1, k2, k3, k4, k5⟩, ⟨a1, a2, a3, a4, a5, a6⟩, ⟨k, kr, kc, km⟩, ⟨q1, qc, qm, qq⟩, ⟨b1, b2⟩, ⟨g1, g2, g3⟩, g4⟩ := h
  have zy : TY σ9 y = TY σ y := by simp (disch := decide) only [TY, f.fI 7 y _ (show 7 ∉ [6] by decide)]
  have z4 : gI σ9 4 t 0 = gI σ 4 t 0 := f.fI 4 t 0 (by decide)
  refine hh.up (c1 := gI τ 12 0 5) (f.m (by decide)) (g.c (by decide)) Agr.z (by rw [zy]; exact k4) ?_ ⟨k, kr, ?_, ?_⟩ ⟨q1, ?_, ?_, qq⟩ ⟨?_, ?_⟩ ?_ ?_
  · rw [z4, g.1 50 (by decide), g.1 51 (by decide), g.1 52 (by decide), g.1 53 (by decide), g.1 54 (by decide), g.1 55 (by decide)]
    exact ⟨a1, a2, a3, a4, a5, a6⟩
  · rw [z4]; exact kc
  · rw [g.1 49 (by decide)]; exact km
  · rw [e1]; exact qc
  · rw [g.1 56 (by decide)]; exact qm
  · rw [e4, g.1 57 (by decide)]; exact b1
  · rw [e5, g.1 58 (by decide)]; exact b2
  · rw [z4, g.1 59 (by decide)]; exact ⟨g1, g2, g3⟩
  · rw [z4, g.1 60 (by decide)]; exact g4
end PSI
