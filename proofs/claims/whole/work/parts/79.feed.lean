/-! PURE. feed. -/
section FEE
variable {σ τ σ1 τ1 : Mem} {p : Nat}
/-- p bytes lie on both tapes, all else as it was -/
def Fd8 (σ τ : Mem) (p : Nat) (σ1 τ1 : Mem) : Prop :=
  FC [8] σ σ1 ∧ FM [0, 1, 8] [] [4] τ τ1 ∧ gI τ1 12 0 0 0 = gI τ 12 0 0 0 ∧ gI σ1 8 0 0 1 = nI p ∧ gI τ1 12 0 0 8 = nI p ∧ (∀ k, k < p → gI σ1 8 0 1 k = gI τ1 12 0 4 k ∧ -128 ≤ (gI τ1 12 0 4 k).toInt ∧ (gI τ1 12 0 4 k).toInt ≤ 127) ∧
  (gI σ1 8 0 0 2 = gI σ 8 0 0 2 ∧ gI σ1 8 0 0 3 = gI σ 8 0 0 3 ∧ gL σ1 8 0 2 = gL σ 8 0 2)
theorem nar_rng (x : Int32) : -128 ≤ (vp_nar .byte (Int8.toInt32 (Int32.toInt8 x))).toInt ∧ (vp_nar .byte (Int8.toInt32 (Int32.toInt8 x))).toInt ≤ 127 := by
  rw [pk_vb, Int8.toInt_toInt32]
  have h1 := (Int32.toInt8 x).toInt_lt
  have h2 := (Int32.toInt8 x).le_toInt
  omega
theorem Fd8.one (h : Fd8 σ τ p σ1 τ1) {v : Int32} (hv : -128 ≤ v.toInt ∧ v.toInt ≤ 127) : Fd8 σ τ (p + 1) (sI (sI σ1 8 0 1 p v) 8 0 0 1 (nI (p + 1))) (sI (sI τ1 12 0 4 p v) 12 0 0 8 (nI (p + 1))) := by
  obtain ⟨h1, h2, h0, h3, h4, h5, h6, h7, h8⟩ := h
  refine ⟨FC.sI (FC.sI h1 (by decide)) (by decide), FM.sI (FM.sP h2 (by decide) (by decide)) (by decide), ?_, rI_s, rI_s, fun k hk => ?_, ?_, ?_, ?_⟩
  · rw [rI_n (by decide), rI_c (by decide)]; exact h0
  · have r1 : gI (sI (sI σ1 8 0 1 p v) 8 0 0 1 (nI (p + 1))) 8 0 1 k = gI (sI σ1 8 0 1 p v) 8 0 1 k := by rw [rI_c (by decide)]
    have r2 : gI (sI (sI τ1 12 0 4 p v) 12 0 0 8 (nI (p + 1))) 12 0 4 k = gI (sI τ1 12 0 4 p v) 12 0 4 k := by rw [rI_c (by decide)]
    rw [r1, r2]
    by_cases e : k = p
    · subst e; rw [rI_s, rI_s]; exact ⟨rfl, hv⟩
    · rw [rI_n e, rI_n e]; exact h5 k (by omega)
  · rw [rI_n (by decide), rI_c (by decide)]; exact h6
  · rw [rI_n (by decide), rI_c (by decide)]; exact h7
  · exact h8
theorem c_app1 {x w v u : Int32} {m : Nat} (hv : w &&& 31 = v) (hu : w + (-8) = u) (hp : p < 900) (h : gI σ1 8 0 0 1 = nI p) (hw : ¬ w < 0) : F8_append_L3 x (m + 1) σ1 w = F8_append_L3 x m (sI (sI σ1 8 0 1 p (vp_nar .byte (Int8.toInt32 (Int32.toInt8 (x >>> v))))) 8 0 0 1 (nI (p + 1))) u := by
  subst hv; subst hu
  simp only [F8_append_L3.eq_2]
  rw [if_neg hw, h, if_neg (show ¬ (900 : Int32) ≤ nI p from nI_ge (a := p) (b := 900) (by omega) (by omega)), chk_nI hp (by omega), bnd_eq, bnd_eq, cl_nI (by omega), rI_c (by decide), h, nI_1]
theorem m_lay1 {x w v u : Int32} {m : Nat} (hv : (8 * w) &&& 31 = v) (hu : w + (-1) = u) (hp : p < 900) (h : gI τ1 12 0 0 8 = nI p) (hw : ¬ w < 0) : F12_lay_L2 x (m + 1) τ1 w = F12_lay_L2 x m (sI (sI τ1 12 0 4 p (vp_nar .byte (Int8.toInt32 (Int32.toInt8 (x >>> v))))) 12 0 0 8 (nI (p + 1))) u := by
  subst hv; subst hu
  simp only [F12_lay_L2.eq_2]
  rw [if_neg hw, h, chk_nI hp (by omega), bnd_eq, bnd_eq, cl_nI (by omega), rI_c (by decide), h, nI_1]
theorem ap4 (h : Fd8 σ τ p σ1 τ1) (x : Int32) (hp : p + 4 ≤ 900) : ∃ σ2 τ2, F8_append σ1 x = some ((), σ2) ∧ F12_lay τ1 x = some ((), τ2) ∧ Fd8 σ τ (p + 4) σ2 τ2 := by
  obtain ⟨m, hm⟩ : ∃ m, fuelK = m + 5 := ⟨fuelK - 5, by have := fuelK_lt (k := 5) (by omega); omega⟩
  have k1 := h.one (nar_rng (x >>> 24))
  have k2 := k1.one (nar_rng (x >>> 16))
  have k3 := k2.one (nar_rng (x >>> 8))
  have k4 := k3.one (nar_rng (x >>> 0))
  refine ⟨_, _, ?_, ?_, k4⟩
  · unfold F8_append
    rw [hm, c_app1 (w := 24) (v := 24) (u := 16) (by decide) (by decide) (by omega) h.2.2.2.1 (by decide), c_app1 (w := 16) (v := 16) (u := 8) (by decide) (by decide) (by omega) k1.2.2.2.1 (by decide), c_app1 (w := 8) (v := 8) (u := 0) (by decide) (by decide) (by omega) k2.2.2.2.1 (by decide), c_app1 (w := 0) (v := 0) (u := -8) (by decide) (by decide) (by omega) k3.2.2.2.1 (by decide)]
    simp only [F8_append_L3.eq_2]
    rw [if_pos (show (-8 : Int32) < 0 by decide), bd_some]
  · unfold F12_lay
    rw [hm, m_lay1 (w := 3) (v := 24) (u := 2) (by decide) (by decide) (by omega) h.2.2.2.2.1 (by decide), m_lay1 (w := 2) (v := 16) (u := 1) (by decide) (by decide) (by omega) k1.2.2.2.2.1 (by decide), m_lay1 (w := 1) (v := 8) (u := 0) (by decide) (by decide) (by omega) k2.2.2.2.2.1 (by decide), m_lay1 (w := 0) (v := 0) (u := -1) (by decide) (by decide) (by omega) k3.2.2.2.2.1 (by decide)]
    simp only [F12_lay_L2.eq_2]
    rw [if_pos (show (-1 : Int32) < 0 by decide), bd_some]
theorem st_feed {σC σM : Mem} (h : Rel σC σM) (x1 x2 x3 x4 x5 : Int32) : Stq (F11_feed σC x1 x2 x3 x4 x5) (F12_feed σM x1 x2 x3 x4 x5) := by
  have hP := h.1.2.1.1
  obtain ⟨p1, p2, p3, p4, p5, p6⟩ := hP
  obtain ⟨p, hp, ep⟩ := i32_ex (x := gI σM 12 0 0 8) 900 (i32_le.mp p2) (i32_le.mp p3)
  unfold F11_feed F12_feed
  have z8 : gI (sI σM 12 0 0 1 0) 12 0 0 8 = nI p := by rw [rI_n (by decide)]; exact ep
  rw [bnd_eq, z8, p1, ep]
  have e20 : nI p + 20 = nI (p + 20) := nI_add p 20
  rw [e20]
  by_cases c : p + 20 ≤ 900
  · rw [if_pos (show nI (p + 20) ≤ (900 : Int32) from nI_le (a := p + 20) (b := 900) (by omega) (by omega)), if_pos (show nI (p + 20) ≤ (900 : Int32) from nI_le (a := p + 20) (b := 900) (by omega) (by omega))]
    have k0 : Fd8 σC (sI σM 12 0 0 1 0) p σC (sI σM 12 0 0 1 0) := by
      refine ⟨FC.z, FM.z, rfl, p1.trans ep, z8, fun k hk => ?_, rfl, rfl, rfl⟩
      rw [rI_c (by decide)]
      exact p6 k (by rw [ep, nat, cl_nI (by omega)]; exact hk)
    obtain ⟨s1, t1, a1, b1, k1⟩ := ap4 k0 x1 (by omega)
    obtain ⟨s2, t2, a2, b2, k2⟩ := ap4 k1 x2 (by omega)
    obtain ⟨s3, t3, a3, b3, k3⟩ := ap4 k2 x3 (by omega)
    obtain ⟨s4, t4, a4, b4, k4⟩ := ap4 k3 x4 (by omega)
    obtain ⟨s5, t5, a5, b5, k5⟩ := ap4 k4 x5 (by omega)
    rw [a1, b1, bd_some, bd_some, a2, b2, bd_some, bd_some, a3, b3, bd_some, bd_some, a4, b4, bd_some, bd_some, a5, b5, bd_some, bd_some]
    obtain ⟨h1, h2, h0, h3, h4, h5, h6, h7, h8⟩ := k5
    rw [h3, h4]
    refine ⟨_, _, _, rfl, rfl, ?_, ?_, ?_, ?_⟩
    · have g : FM [0, 1, 8] [] [4] σM t5 := FM.t (FM.I (by decide)) h2
      refine h.1.io (h1.m (by decide)) (g.m (by decide) (by decide) (by decide)) ?_ ?_ h8
      · intro t ht
        have := h.1.1 t ht
        rw [h1.fB 10 t 0 (by decide), h1.fI 10 t 0 (by decide), h1.fL 10 t 1 (by decide), (g.2.2.2 1 (by decide) (by decide)).1, (g.2.2.2 2 (by decide) (by decide)).1, (g.2.2.2 3 (by decide) (by decide)).2]
        exact this
      · refine ⟨h3.trans h4.symm, ?_, ?_, ?_, ?_, fun k hk => h5 k ?_⟩
        · rw [h4]; exact nI_pos' (by omega)
        · rw [h4]; exact nI_le (b := 900) (by omega) (by omega)
        · rw [h6, g.1 10 (by decide)]; exact p4
        · rw [h7, g.1 11 (by decide)]; exact p5
        · rw [h4, nat, cl_nI (by omega)] at hk; exact hk
    · rw [h1.fI 11 0 0 (by decide), h0, rI_n (by decide)]; exact h.2.1
    · rw [h1.fL 11 0 0 (by decide), h2.2.1 2 (by decide)]; exact h.2.2.1
    · rw [h1.fL 11 0 0 (by decide), h2.2.1 3 (by decide)]; exact h.2.2.2
  · rw [if_neg (show ¬ nI (p + 20) ≤ (900 : Int32) from fun e => by have := i32_le.mp e; rw [nI_int (by omega)] at this; have : (900 : Int32).toInt = 900 := rfl; omega), if_neg (show ¬ nI (p + 20) ≤ (900 : Int32) from fun e => by have := i32_le.mp e; rw [nI_int (by omega)] at this; have : (900 : Int32).toInt = 900 := rfl; omega)]
    exact ⟨_, _, _, rfl, rfl, h.q rfl (PM_I (by decide)) (by rw [rI_n (by decide)]; exact h.2.1) h.2.2.1 h.2.2.2⟩
end FEE
