/-! PURE. play, wins: one shot of a game. -/
section PSH
variable {σ τ σ' τ' : Mem} {t u y : Nat} {c c1 : Nat → Int32}
/-- a place below a bound is within -/
theorem wi_ok {k n : Nat} (h : k < n) (hn : n ≤ 1000) : F11_within (nI k) 0 (nI n - 1) = true := by
  have e1 : (1 : Int32).toInt = 1 := rfl
  have en := nI_int (n := n) (by omega)
  refine within_iff.mpr ⟨i32_le.mpr ?_, i32_le.mpr ?_⟩
  · rw [nI_int (by omega)]; show (0 : Int) ≤ _; omega
  · rw [i32_sub (by rw [e1]; omega) (by rw [e1]; omega), e1, en, nI_int (by omega)]; omega
theorem PlR.up (h : PlR t u y c σ τ) (f : FC [4, 6, 7] σ σ') (hc : gI τ' 12 0 5 = c1) (ag : Agr (gI τ 12 0 5) c1) (ta : TallyR (TY σ' y) c1)
    (e : gI σ' 4 t 0 1 = gI τ' 12 0 0 50 ∧ gI σ' 4 t 0 2 = gI τ' 12 0 0 51 ∧ gI σ' 4 t 0 3 = gI τ' 12 0 0 52 ∧ gI σ' 4 t 0 4 = gI τ' 12 0 0 53 ∧ gI σ' 4 t 0 5 = gI τ' 12 0 0 54 ∧ gI σ' 4 t 0 6 = gI τ' 12 0 0 55)
    (r : ∃ k, k < 65536 ∧ gI σ' 4 t 0 7 = nI k ∧ gI τ' 12 0 0 49 = nI k)
    (p : ∃ q, gI σ' 6 (1 + t) 0 1 = nI q ∧ gI τ' 12 0 0 56 = nI q ∧ (q < nat (gI τ 12 0 5 5) ∨ (q = 0 ∧ nat (gI τ 12 0 5 5) = 0)))
    (a : gI σ' 6 (1 + t) 0 4 = gI τ' 12 0 0 57 ∧ gI σ' 6 (1 + t) 0 5 = gI τ' 12 0 0 58)
    (b : gI σ' 4 t 0 9 = gI τ' 12 0 0 59 ∧ 1 ≤ gI τ' 12 0 0 59 ∧ gI τ' 12 0 0 59 ≤ 40) (g : gI σ' 4 t 0 8 = gI τ' 12 0 0 60) : PlR t u y c σ' τ' := by
  obtain ⟨⟨h1, h2, h3, h4, h5⟩, -⟩ := h
  unfold PlR
  rw [hc]
  refine ⟨⟨(h1.agr h3 ag).fc f (by decide), ?_, h3.agr ag, ta, h5.t ag⟩, e, r, ?_, a, b, g⟩
  · rw [f.fI 9 u 0 (by decide), ag 0 (by omega)]; exact h2
  · rw [ag 5 (by omega)]; exact p
theorem PlR.tu (h : PlR t u y c σ τ) (f : FC [4, 6, 7] σ σ') : TentT (gI σ' 9 u) (gI τ 12 0 5) := h.1.1.fc f (by decide)
/-- the strike of a shot, on both sides -/
theorem pl_hit {s q : Nat} {hx hy q0 q0' : Int32} (h : PlR t u y c σ τ) (hs : s < nat (gI τ 12 0 5 6)) (hp : q < nat (gI τ 12 0 5 5)) (h8 : nat (gI τ 12 0 5 8) < 60)
    (e0 : gI σ 6 (1 + t) 0 0 = nI s) (e1 : gI σ 6 (1 + t) 0 1 = nI q) (m1 : gI τ 12 0 0 56 = nI q)
    (d : gI σ 6 (1 + t) 0 11 = gI τ 12 0 0 29) (as : gI σ 6 (1 + t) 0 12 = gI τ 12 0 0 30) (o1 : q0 * gI σ 6 (1 + t) 0 13 = q0' * gI τ 12 0 0 31) :
    ∃ σ' τ', F4_shootOnce_p210 σ t u y hx hy q0 = some ((), σ') ∧ F12_shootsBy_p127 τ (nI s) hx hy q0' = some (true, τ') ∧ PlF t y σ τ σ' τ' ∧ PlR t u y c σ' τ' ∧ gI τ' 12 0 0 51 = gI τ 12 0 0 51 := by
  have hh := h
  obtain ⟨⟨k1, k2, k3, k4, k5⟩, ⟨a1, a2, a3, a4, a5, a6⟩, ⟨k, kr, kc, km⟩, ⟨q1, qc, qm, qq⟩, ⟨b1, b2⟩, ⟨g1, g2, g3⟩, g4⟩ := h
  have h6 := ok_n6 k3
  unfold F4_shootOnce_p210 F12_shootsBy_p127
  rw [bnd_eq, bnd_eq]
  have fb : FC [4, 6, 7] σ (sI σ 4 t 0 3 (gI σ 4 t 0 3 + 1)) := FC.I (by decide)
  have w6 : ∀ j, gI (sI σ 4 t 0 3 (gI σ 4 t 0 3 + 1)) 6 (1 + t) 0 j = gI σ 6 (1 + t) 0 j := fun j => by rw [rI_a (by decide)]
  have wc : gI (sI τ 12 0 0 52 (gI τ 12 0 0 52 + 1)) 12 0 5 = gI τ 12 0 5 := by rw [rI_c (by decide)]
  have wt : TallyR (TY (sI σ 4 t 0 3 (gI σ 4 t 0 3 + 1)) y) (gI τ 12 0 5) := by
    have : TY (sI σ 4 t 0 3 (gI σ 4 t 0 3 + 1)) y = TY σ y := by simp (disch := decide) only [TY, rI_a]
    rw [this]; exact k4
  rw [c_strikeX (hh.tu fb) k3 hs (by rw [w6, e0]), Option.bind_some, c_strikeY (hh.tu fb) k3 hs (by rw [w6, e0]), Option.bind_some, w6, w6, w6, w6, w6]
  have wm : ∀ j, j ≠ 52 → gI (sI τ 12 0 0 52 (gI τ 12 0 0 52 + 1)) 12 0 0 j = gI τ 12 0 0 j := fun j hj => rI_n hj
  rw [wm 56 (by decide), m1, m_shoots (p := q) wc k3 k4.ok hs h8, bd_some, bnd_eq, wm 57 (by decide), wm 58 (by decide), wm 54 (by decide), wm 30 (by decide), wm 31 (by decide), wm 29 (by decide)]
  have eX : gI σ 6 (1 + t) 0 4 + gI τ 12 0 5 (65 + s) + gI σ 6 (1 + t) 0 12 + q0 * gI σ 6 (1 + t) 0 13 + hx = gI τ 12 0 0 57 + gI τ 12 0 5 (65 + s) + gI τ 12 0 0 30 + hx + q0' * gI τ 12 0 0 31 := by
    rw [b1, as, o1]
    generalize q0' * gI τ 12 0 0 31 = O
    grind
  have eY : gI σ 6 (1 + t) 0 5 + gI τ 12 0 5 (71 + s) - gI σ 6 (1 + t) 0 11 + hy = gI τ 12 0 0 58 + gI τ 12 0 5 (71 + s) + hy - gI τ 12 0 0 29 := by
    rw [b2, d]; grind
  rw [eX, eY]
  generalize gI τ 12 0 0 57 + gI τ 12 0 5 (65 + s) + gI τ 12 0 0 30 + hx + q0' * gI τ 12 0 0 31 = X
  generalize gI τ 12 0 0 58 + gI τ 12 0 5 (71 + s) + hy - gI τ 12 0 0 29 = Y
  obtain ⟨σc, s1, s2, s3, s4⟩ := c_strike (σ := sI σ 4 t 0 3 (gI σ 4 t 0 3 + 1)) (y := y) (t2 := 1 + t) (s := s) (p := q) (X := X) (Y := Y) (hh.tu fb) k3 wt (by omega) h8 (by rw [w6, e0]) (by rw [w6, e1])
  rw [s1, bd_some, bnd_eq]
  have z4 : ∀ v j, j ≠ 5 → j ≠ 3 → gI (sI σc 4 t 0 5 v) 4 t 0 j = gI σ 4 t 0 j := fun v j h5 h3 => by rw [rI_n h5, s2.fI 4 t 0 (by decide), rI_n h3]
  have z6 : ∀ v j, gI (sI σc 4 t 0 5 v) 6 (1 + t) 0 j = gI σ 6 (1 + t) 0 j := fun v j => by rw [rI_a (by decide), s2.fI 6 (1 + t) 0 (by decide), w6]
  have zm : ∀ v g j, j ≠ 54 → j ≠ 52 → gI (sI (sIf (sI τ 12 0 0 52 (gI τ 12 0 0 52 + 1)) 12 0 5 g) 12 0 0 54 v) 12 0 0 j = gI τ 12 0 0 j := fun v g j h5 h3 => by rw [rI_n h5, rI_c (by decide), rI_n h3]
  have zy : ∀ v b, TY (sI σc 4 t 0 5 v) b = TY σc b := fun v b => by simp (disch := decide) only [TY, rI_a]
  refine ⟨_, _, rfl, rfl, ⟨⟨FC.sI (fb.t (s2.m (by decide))) (by decide), fun b hb => ?_, fun b i hb => ?_, ?_⟩, FM.sI (FM.sP (FM.sI FM.z (by decide)) (by decide) (by decide)) (by decide)⟩, ?_, zm _ _ 51 (by decide) (by decide)⟩
  · rw [zy, s3 b hb]; simp (disch := decide) only [TY, rI_a]
  · rw [g4_ne hb, s2.fI 4 b i (by decide), g4_ne hb]
  · funext b j
    rw [gB_sI, s2.fB 4 b j (by decide)]; rfl
  · refine hh.up (c1 := strC (gI τ 12 0 5) s q X Y (sPts (gI τ 12 0 5) X Y)) (FC.sI (fb.t (s2.m (by decide))) (by decide)) ?_ (str_agr (by omega) h8) ?_ ⟨?_, ?_, ?_, ?_, ?_, ?_⟩ ⟨k, kr, ?_, ?_⟩ ⟨q1, ?_, ?_, qq⟩ ⟨?_, ?_⟩ ⟨?_, ?_, ?_⟩ ?_
    · rw [rI_c (by decide), rI_f]
    · rw [zy, s4]; exact str_ta wt (by omega) h8
    · rw [z4 _ 1 (by decide) (by decide), zm _ _ 50 (by decide) (by decide)]; exact a1
    · rw [z4 _ 2 (by decide) (by decide), zm _ _ 51 (by decide) (by decide)]; exact a2
    · rw [rI_n (by decide), s2.fI 4 t 0 (by decide), rI_s, rI_n (by decide), rI_c (by decide), rI_s, a3]
    · rw [z4 _ 4 (by decide) (by decide), zm _ _ 53 (by decide) (by decide)]; exact a4
    · rw [rI_s, rI_s, rI_n (by decide), a5]
    · rw [z4 _ 6 (by decide) (by decide), zm _ _ 55 (by decide) (by decide)]; exact a6
    · rw [z4 _ 7 (by decide) (by decide)]; exact kc
    · rw [zm _ _ 49 (by decide) (by decide)]; exact km
    · rw [z6]; exact qc
    · rw [zm _ _ 56 (by decide) (by decide)]; exact qm
    · rw [z6, zm _ _ 57 (by decide) (by decide)]; exact b1
    · rw [z6, zm _ _ 58 (by decide) (by decide)]; exact b2
    · rw [z4 _ 9 (by decide) (by decide), zm _ _ 59 (by decide) (by decide)]; exact g1
    · rw [zm _ _ 59 (by decide) (by decide)]; exact g2
    · rw [zm _ _ 59 (by decide) (by decide)]; exact g3
    · rw [z4 _ 8 (by decide) (by decide), zm _ _ 60 (by decide) (by decide)]; exact g4
end PSH
