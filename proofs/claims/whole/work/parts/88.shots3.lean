/-! PURE. play, wins: one shot of a game, both sides. -/
section PSJ
variable {σ τ σ' τ' : Mem} {t u y s : Nat} {c : Nat → Int32}
/-- what a step leaves: b tells whether the model did it -/
def PlS (t u y : Nat) (c : Nat → Int32) (σ τ σ' τ' : Mem) (b : Bool) : Prop :=
  PlF t y σ τ σ' τ' ∧ gI τ' 12 0 0 51 = gI τ 12 0 0 51 ∧ PlR t u y c σ' (sI τ' 12 0 0 51 (gI τ 12 0 0 51 + (if b = true then 0 else 1)))
theorem PlS.yes (f : PlF t y σ τ σ' τ') (e : gI τ' 12 0 0 51 = gI τ 12 0 0 51) (h : PlR t u y c σ' τ') : PlS t u y c σ τ σ' τ' true := by
  refine ⟨f, e, ?_⟩
  rw [if_pos rfl, Int32.add_zero, sI_self e]; exact h
theorem PlS.no (h : PlR t u y c σ τ) : PlS t u y c σ τ (sI σ 4 t 0 2 (gI σ 4 t 0 2 + 1)) τ false := by
  refine ⟨plf_4, rfl, ?_⟩
  rw [if_neg (by decide), ← h.2.1.2.1]
  exact h.cnt 2 51 (.inl ⟨rfl, rfl⟩) _
theorem iMin_40 {a b : Int32} (ha : 1 ≤ a ∧ a ≤ 40) (hb : 1 ≤ b.toInt ∧ b.toInt ≤ 40) : 1 ≤ (iMin a b).toInt ∧ (iMin a b).toInt ≤ 40 := by
  have h := b32 ha
  have e1 : (1 : Int32).toInt = 1 := rfl
  have e4 : (40 : Int32).toInt = 40 := rfl
  unfold iMin
  split <;> omega
theorem pl_shoot (h : PlR t u y c σ τ) (hs : s < nat (gI τ 12 0 5 6)) :
    ∃ σ' τ' b, F4_shootOnce σ t (nI s) u y = some ((), σ') ∧ F12_shootsBy τ (nI s) = some (b, τ') ∧ PlS t u y c σ τ σ' τ' b := by
  have hh := h
  obtain ⟨⟨k1, k2, k3, k4, k5⟩, ⟨a1, a2, a3, a4, a5, a6⟩, ⟨k, kr, kc, km⟩, ⟨q, qc, qm, qq⟩, ⟨b1, b2⟩, ⟨g1, g2, g3⟩, g4⟩ := h
  have h6 := ok_n6 k3
  have h5 := ok_n5 k3
  have i5 := ok_i5 k3
  have hq : q ≤ 8 := by omega
  unfold F4_shootOnce F12_shootsBy
  rw [k1.1.2.2.2.2.2, if_pos (show F11_within (nI s) 0 (gI τ 12 0 5 6 - 1) = true by rw [ok_i6 k3]; exact wi_ok hs (by omega)), k1.1.2.2.2.2.1, qc, al_5, Option.bind_some, qm]
  have n5 : gI τ 12 0 5 5 = 0 ↔ nat (gI τ 12 0 5 5) = 0 := by
    constructor
    · intro e; rw [e]; rfl
    · intro e; rw [i5, e]; rfl
  rcases qq with qq | ⟨rfl, qz⟩
  rotate_left
  · rw [if_pos (n5.mpr qz), if_neg (show ¬ F11_within (nI 0) 0 (gI τ 12 0 5 5 - 1) = true by rw [i5, qz]; decide)]
    unfold F4_shootOnce_p39
    rw [if_neg (show ¬ false = true by decide), bnd_eq]
    exact ⟨_, _, _, rfl, rfl, PlS.no hh⟩
  rw [if_neg (show ¬ gI τ 12 0 5 5 = 0 from fun e => by have := n5.mp e; omega), if_pos (show F11_within (nI q) 0 (gI τ 12 0 5 5 - 1) = true by rw [i5]; exact wi_ok qq (by omega))]
  unfold F4_shootOnce_p39
  rw [if_pos (show true = true from rfl), qc, c_fit k1 k3 qq, m_fit (by omega), Option.bind_some, Option.bind_some]
  by_cases hf0 : sFit (gI τ 12 0 5) q < 0
  · rw [if_pos hf0, if_pos hf0, bnd_eq]
    exact ⟨_, _, _, rfl, rfl, PlS.no hh⟩
  obtain ⟨n8, i8⟩ := k4.ok.n8
  have e8 : gI σ 7 y 0 1 = gI τ 12 0 5 8 := k4.1.2
  rw [if_neg hf0, if_neg hf0, al_8, Option.bind_some, e8]
  by_cases h60 : nat (gI τ 12 0 5 8) = 60
  · rw [if_pos (show gI τ 12 0 5 8 = 60 by rw [i8, h60]; rfl), if_neg (show ¬ gI τ 12 0 5 8 < 60 by rw [i8, h60]; decide), bnd_eq]
    exact ⟨_, _, _, rfl, rfl, PlS.no hh⟩
  have hsh := ok_sh k3 hs
  rw [if_neg (show ¬ gI τ 12 0 5 8 = 60 from fun e => h60 (by rw [e]; rfl)), if_pos (show gI τ 12 0 5 8 < 60 by rw [i8]; exact nI_lt (b := 60) (by omega) (by omega)), bnd_eq]
  -- the shot is made ready
  rw [ald_nI (by omega) (by omega), rI_a (by decide), Option.bind_some, (k1.2.2.2 s hs).1, bnd_eq, bnd_eq, bnd_eq]
  simp (disch := omega) only [ix_53, al_7, ald_nI, Option.bind_some]
  have u7 : gI σ 7 y 0 0 = gI τ 12 0 5 7 := k4.1.1
  simp (disch := decide) only [rI_a, u7, g1, k2]
  have hsp : 0 ≤ (gI τ 12 0 5 7).toInt ∧ (gI τ 12 0 5 7).toInt ≤ 20 := b32 k4.2.1.1
  have hP := iMin_40 ⟨g2, g3⟩ hsh.1
  generalize iMin (gI τ 12 0 0 59) (gI τ 12 0 5 (53 + s)) = P at *
  have f8 : FC [6] σ (sI (sI (sI (sI σ 6 (1 + t) 0 0 (nI s)) 6 (1 + t) 0 2 P) 6 (1 + t) 0 6 (gI τ 12 0 5 7)) 6 (1 + t) 0 7 (gI τ 12 0 5 0)) := by
    repeat' first | exact FC.z | refine FC.sI ?_ (by decide) | refine FC.sL ?_ (by decide) | refine FC.sB ?_ (by decide)
  have v0 : gI (sI (sI (sI (sI σ 6 (1 + t) 0 0 (nI s)) 6 (1 + t) 0 2 P) 6 (1 + t) 0 6 (gI τ 12 0 5 7)) 6 (1 + t) 0 7 (gI τ 12 0 5 0)) 6 (1 + t) 0 0 = nI s := by simp (disch := decide) only [rI_n, rI_s]
  have v1 : gI (sI (sI (sI (sI σ 6 (1 + t) 0 0 (nI s)) 6 (1 + t) 0 2 P) 6 (1 + t) 0 6 (gI τ 12 0 5 7)) 6 (1 + t) 0 7 (gI τ 12 0 5 0)) 6 (1 + t) 0 1 = nI q := by simp (disch := decide) only [rI_n, qc]
  have v2 : gI (sI (sI (sI (sI σ 6 (1 + t) 0 0 (nI s)) 6 (1 + t) 0 2 P) 6 (1 + t) 0 6 (gI τ 12 0 5 7)) 6 (1 + t) 0 7 (gI τ 12 0 5 0)) 6 (1 + t) 0 2 = P := by simp (disch := decide) only [rI_n, rI_s]
  have v4 : gI (sI (sI (sI (sI σ 6 (1 + t) 0 0 (nI s)) 6 (1 + t) 0 2 P) 6 (1 + t) 0 6 (gI τ 12 0 5 7)) 6 (1 + t) 0 7 (gI τ 12 0 5 0)) 6 (1 + t) 0 4 = gI σ 6 (1 + t) 0 4 := by simp (disch := decide) only [rI_n]
  have v5 : gI (sI (sI (sI (sI σ 6 (1 + t) 0 0 (nI s)) 6 (1 + t) 0 2 P) 6 (1 + t) 0 6 (gI τ 12 0 5 7)) 6 (1 + t) 0 7 (gI τ 12 0 5 0)) 6 (1 + t) 0 5 = gI σ 6 (1 + t) 0 5 := by simp (disch := decide) only [rI_n]
  have v6 : gI (sI (sI (sI (sI σ 6 (1 + t) 0 0 (nI s)) 6 (1 + t) 0 2 P) 6 (1 + t) 0 6 (gI τ 12 0 5 7)) 6 (1 + t) 0 7 (gI τ 12 0 5 0)) 6 (1 + t) 0 6 = gI τ 12 0 5 7 := by simp (disch := decide) only [rI_n, rI_s]
  have v7 : gI (sI (sI (sI (sI σ 6 (1 + t) 0 0 (nI s)) 6 (1 + t) 0 2 P) 6 (1 + t) 0 6 (gI τ 12 0 5 7)) 6 (1 + t) 0 7 (gI τ 12 0 5 0)) 6 (1 + t) 0 7 = gI τ 12 0 5 0 := rI_s
  generalize sI (sI (sI (sI σ 6 (1 + t) 0 0 (nI s)) 6 (1 + t) 0 2 P) 6 (1 + t) 0 6 (gI τ 12 0 5 7)) 6 (1 + t) 0 7 (gI τ 12 0 5 0) = σ8 at *
  obtain ⟨σ9, r1, r2, r3, r4, r5⟩ := c_reckon (σ := σ8) (t0 := 1 + t) (k1.fc f8 (by decide)) k3 qq hsp ⟨v1, v2, v6, v7⟩
  obtain ⟨τ7, m1, m2, m3⟩ := m_flies (σ := τ) (puff := P) k3 qq hsp
  have f9 : FC [6] σ σ9 := f8.t r2
  have pr : PlR t u y c σ9 τ7 := hh.six f9 m2 (by rw [r3 1 (by decide), v1, qc]) (by rw [r3 4 (by decide), v4]) (by rw [r3 5 (by decide), v5])
  have pf : PlF t y σ τ σ9 τ7 := plf_6 f9 m2
  have c7 : gI τ7 12 0 5 = gI τ 12 0 5 := m2.c (by decide)
  have m51 : gI τ7 12 0 0 51 = gI τ 12 0 0 51 := m2.1 51 (by decide)
  rw [r1, bd_some, r4, m1, bd_some]
  by_cases hf : sFate (gI τ 12 0 5) q P (gI τ 12 0 5 7) = 0
  rotate_left
  · rw [if_neg hf, if_neg (by simp [hf]), bnd_eq, bnd_eq]
    refine ⟨_, _, _, rfl, rfl, PlS.yes (pf.t ⟨(plf_4 (τ := τ7)).1, FM.I (by decide)⟩) (by rw [rI_n (by decide)]; exact m51) ?_⟩
    rw [pr.2.1.2.2.2.1]
    exact pr.cnt 4 53 (.inr (.inl ⟨rfl, rfl⟩)) _
  rw [if_pos hf, if_pos (by simp [hf])]
  obtain ⟨-, w1, w2, w3, w4⟩ := r5 hf
  obtain ⟨x1, x2, x3, x4⟩ := m3 hf
  have d0 : gI σ9 6 (1 + t) 0 0 = nI s := by rw [r3 0 (by decide), v0]
  have d1 : gI σ9 6 (1 + t) 0 1 = nI q := by rw [r3 1 (by decide), v1]
  have d11 : gI σ9 6 (1 + t) 0 11 = gI τ7 12 0 0 29 := by rw [w2, x2, w1, x1]
  have d12 : gI σ9 6 (1 + t) 0 12 = gI τ7 12 0 0 30 := by rw [w3, x3, w1, x1]
  have d13 : gI σ9 6 (1 + t) 0 13 = gI τ7 12 0 0 31 := by rw [w4, x4, w1, x1]
  have m56 : gI τ7 12 0 0 56 = nI q := by rw [m2.1 56 (by decide), qm]
  have hO := (zFly_int (z := (gI τ 12 0 5, s, q, P, 0, 0, 0, gI τ 12 0 5 7)) ⟨k3, hs, qq, hsp, hP⟩ hf).2
  have eO : zOff (gI τ 12 0 5, s, q, P, 0, 0, 0, gI τ 12 0 5 7) = gI τ7 12 0 0 31 := by rw [x4, x1]; rfl
  rw [eO] at hO
  have hs7 : s < nat (gI τ7 12 0 5 6) := by rw [c7]; exact hs
  have hh7 := sHand_int pr.1.2.2.1 hs7 (gI τ7 12 0 0 60)
  have eH : sHand (gI τ7 12 0 5) s (gI τ7 12 0 0 60) = nI (nat (sHand (gI τ7 12 0 5) s (gI τ7 12 0 0 60))) := nI_of32 (i32_le.mpr hh7.1)
  have hn : nat (sHand (gI τ7 12 0 5) s (gI τ7 12 0 0 60)) ≤ 6 := by have := nat_i (sHand (gI τ7 12 0 5) s (gI τ7 12 0 0 60)); omega
  rw [pr.2.2.2.2.2.2, c_hand pr.1.1 pr.1.2.2.1 hs7, Option.bind_some, m_hand pr.1.2.2.1 hs7, Option.bind_some, eH]
  generalize nat (sHand (gI τ7 12 0 5) s (gI τ7 12 0 0 60)) = n at *
  obtain ⟨j, jr, jc, jm⟩ := pr.2.2.1
  rw [c_drawHand jc jr hn, bd_some, m_drawHand jm jr hn, bd_some]
  obtain ⟨p12, f12⟩ := pr.rnd (dh_lt (n := n) jr)
  have j2 := dh_lt (n := n) jr
  generalize (dh n j).2 = j' at *
  generalize (dh n j).1 = hx at *
  rw [c_drawHand rI_s j2 hn, bd_some, m_drawHand rI_s j2 hn, bd_some]
  obtain ⟨p14, f14⟩ := p12.rnd (dh_lt (n := n) j2)
  have j3 := dh_lt (n := n) j2
  generalize (dh n j').2 = j'' at *
  generalize (dh n j').1 = hy at *
  have z6 : ∀ v w i, gI (sI (sI σ9 4 t 0 7 v) 4 t 0 7 w) 6 (1 + t) 0 i = gI σ9 6 (1 + t) 0 i := fun v w i => by rw [rI_a (by decide), rI_a (by decide)]
  have zm : ∀ v w i, i ≠ 49 → gI (sI (sI τ7 12 0 0 49 v) 12 0 0 49 w) 12 0 0 i = gI τ7 12 0 0 i := fun v w i hi => by rw [rI_n hi, rI_n hi]
  have zc : ∀ v w, gI (sI (sI τ7 12 0 0 49 v) 12 0 0 49 w) 12 0 5 = gI τ 12 0 5 := fun v w => by rw [rI_c (by decide), rI_c (by decide), c7]
  have y0 := z6 (nI j') (nI j'') 0
  have y1 := z6 (nI j') (nI j'') 1
  have y11 := z6 (nI j') (nI j'') 11
  have y12 := z6 (nI j') (nI j'') 12
  have y13 := z6 (nI j') (nI j'') 13
  have q29 := zm (nI j') (nI j'') 29 (by decide)
  have q30 := zm (nI j') (nI j'') 30 (by decide)
  have q31 := zm (nI j') (nI j'') 31 (by decide)
  have q51 := zm (nI j') (nI j'') 51 (by decide)
  have q56 := zm (nI j') (nI j'') 56 (by decide)
  have qc := zc (nI j') (nI j'')
  have jc' : gI (sI (sI σ9 4 t 0 7 (nI j')) 4 t 0 7 (nI j'')) 4 t 0 7 = nI j'' := rI_s
  have jm' : gI (sI (sI τ7 12 0 0 49 (nI j')) 12 0 0 49 (nI j'')) 12 0 0 49 = nI j'' := rI_s
  have F14 := pf.t (f12.t f14)
  generalize sI (sI σ9 4 t 0 7 (nI j')) 4 t 0 7 (nI j'') = σ14 at *
  generalize sI (sI τ7 12 0 0 49 (nI j')) 12 0 0 49 (nI j'') = τ14 at *
  rw [y13, d13, q31]
  have e0 : (0 : Int32).toInt = 0 := rfl
  have hs14 : s < nat (gI τ14 12 0 5 6) := by rw [qc]; exact hs
  have hq14 : q < nat (gI τ14 12 0 5 5) := by rw [qc]; exact qq
  have h814 : nat (gI τ14 12 0 5 8) < 60 := by rw [qc]; omega
  by_cases hz : gI τ7 12 0 0 31 = 0
  · rw [if_pos hz, if_pos (by rw [hz]; exact Int32.le_refl _)]
    obtain ⟨σ', τ', o1, o2, o3, o4, o5⟩ := pl_hit (q0 := 1) (q0' := 0) (hx := hx) (hy := hy) p14 hs14 hq14 h814 (by rw [y0, d0]) (by rw [y1, d1]) (by rw [q56, m56]) (by rw [y11, d11, q29]) (by rw [y12, d12, q30]) (by rw [y13, d13, q31, hz]; rfl)
    exact ⟨σ', τ', true, o1, o2, PlS.yes (F14.t o3) (by rw [o5, q51, m51]) o4⟩
  · have hz' : ¬ gI τ7 12 0 0 31 ≤ 0 := fun e => hz (by rw [i32_eq]; have := i32_le.mp e; omega)
    rw [if_neg hz, if_neg hz', show (2 : Int32) = nI 2 from rfl, c_draw jc' j3 (by omega) (by omega), m_draw jm' j3 (by omega) (by omega), bd_some, bd_some]
    obtain ⟨p22, f22⟩ := p14.rnd (rN_lt j'')
    have u6 : ∀ i, gI (sI σ14 4 t 0 7 (nI (rN j''))) 6 (1 + t) 0 i = gI σ14 6 (1 + t) 0 i := fun i => by rw [rI_a (by decide)]
    have um : ∀ i, i ≠ 49 → gI (sI τ14 12 0 0 49 (nI (rN j''))) 12 0 0 i = gI τ14 12 0 0 i := fun i hi => rI_n hi
    have uc : gI (sI τ14 12 0 0 49 (nI (rN j''))) 12 0 5 = gI τ14 12 0 5 := by rw [rI_c (by decide)]
    have fin : ∀ q0 : Int32, ∃ σ' τ', F4_shootOnce_p210 (sI σ14 4 t 0 7 (nI (rN j''))) t u y hx hy q0 = some ((), σ') ∧ F12_shootsBy_p127 (sI τ14 12 0 0 49 (nI (rN j''))) (nI s) hx hy q0 = some (true, τ') ∧ PlS t u y c σ τ σ' τ' true := by
      intro q0
      obtain ⟨σ', τ', o1, o2, o3, o4, o5⟩ := pl_hit (q0 := q0) (q0' := q0) (hx := hx) (hy := hy) p22 (by rw [uc]; exact hs14) (by rw [uc]; exact hq14) (by rw [uc]; exact h814) (by rw [u6, y0, d0]) (by rw [u6, y1, d1]) (by rw [um 56 (by decide), q56, m56]) (by rw [u6, y11, d11, um 29 (by decide), q29]) (by rw [u6, y12, d12, um 30 (by decide), q30]) (by rw [u6, y13, d13, um 31 (by decide), q31])
      exact ⟨σ', τ', o1, o2, PlS.yes ((F14.t f22).t o3) (by rw [o5, um 51 (by decide), q51, m51]) o4⟩
    rcases (show rN j'' / 8 % 2 = 0 ∨ rN j'' / 8 % 2 = 1 by omega) with e | e
    · rw [e, if_neg (show ¬ nI 0 = 1 by decide), if_pos (show nI 0 = 0 from rfl)]
      obtain ⟨σ', τ', o⟩ := fin 1
      exact ⟨σ', τ', true, o⟩
    · rw [e, if_pos (show nI 1 = 1 from rfl), if_neg (show ¬ nI 1 = 0 by decide)]
      obtain ⟨σ', τ', o⟩ := fin (-1)
      exact ⟨σ', τ', true, o⟩
end PSJ
