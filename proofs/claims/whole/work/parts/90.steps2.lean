/-! PURE. play, wins: one step of a game, both sides. -/
section PSV
variable {σ τ σ' τ' : Mem} {t u y r w p : Nat} {c : Nat → Int32}
theorem PlR.wipe (h : PlR t u y c σ τ) : PlR t u y c (sI σ 7 y 0 0 0) (sIf τ 12 0 5 (upd (gI τ 12 0 5) 7 0)) ∧ PlF t y σ τ (sI σ 7 y 0 0 0) (sIf τ 12 0 5 (upd (gI τ 12 0 5) 7 0)) := by
  have hh := h
  obtain ⟨⟨k1, k2, k3, k4, k5⟩, ⟨a1, a2, a3, a4, a5, a6⟩, ⟨k, kr, kc, km⟩, ⟨q, qc, qm, qq⟩, ⟨b1, b2⟩, ⟨g1, g2, g3⟩, g4⟩ := h
  have ag : Agr (gI τ 12 0 5) (upd (gI τ 12 0 5) 7 0) := fun j hj => by rw [upd_eq, if_neg (by omega)]
  have ta : TallyR (TY (sI σ 7 y 0 0 0) y) (upd (gI τ 12 0 5) 7 0) := by
    obtain ⟨⟨y1, y2⟩, ⟨y3, y4⟩, y5, y6⟩ := k4
    have e : ∀ j, j ≠ 7 → upd (gI τ 12 0 5) 7 0 j = gI τ 12 0 5 j := fun j hj => by rw [upd_eq, if_neg hj]
    have e7 : upd (gI τ 12 0 5) 7 0 7 = 0 := by rw [upd_eq, if_pos rfl]
    have z1 : TY (sI σ 7 y 0 0 0) y = (0, (TY σ y).2) := by simp (disch := decide) only [TY, rI_s, rI_n, rI_c]
    rw [z1]
    refine ⟨⟨e7.symm, by rw [e 8 (by decide)]; exact y2⟩, ⟨by rw [e7]; decide, by rw [e 8 (by decide)]; exact y4⟩, fun i hi => by rw [e _ (by omega)]; exact y5 i hi, fun i hi => ?_⟩
    rw [e 8 (by decide)] at hi
    rw [e _ (by omega), e _ (by omega), e _ (by omega), e _ (by omega)]
    exact y6 i hi
  refine ⟨?_, ⟨FC.I (by decide), fun b hb => by simp [TY, gI_sI, hb], fun b i _ => ?_, rfl⟩, FM.sP FM.z (by decide) (by decide)⟩
  · refine hh.up (c1 := upd (gI τ 12 0 5) 7 0) (FC.I (by decide)) rI_f ag ta ⟨?_, ?_, ?_, ?_, ?_, ?_⟩ ⟨k, kr, ?_, ?_⟩ ⟨q, ?_, ?_, qq⟩ ⟨?_, ?_⟩ ⟨?_, ?_, ?_⟩ ?_
    all_goals (first | assumption | (simp (disch := decide) only [rI_s, rI_n, rI_f, rI_a, rI_c, rL_s, rL_n, rL_f, rL_a, rL_c, rB_s, rB_n, rB_a, rR_s, rR_n, gI_sL, gI_sB, gI_sR, gL_sI, gL_sB, gL_sR, gB_sI, gB_sL, gB_sR, gR_sI, gR_sL, gR_sB]; done) | (simp (disch := decide) only [rI_s, rI_n, rI_f, rI_a, rI_c, rL_s, rL_n, rL_f, rL_a, rL_c, rB_s, rB_n, rB_a, rR_s, rR_n, gI_sL, gI_sB, gI_sR, gL_sI, gL_sB, gL_sR, gB_sI, gB_sL, gB_sR, gR_sI, gR_sL, gR_sB]; assumption))
  · rw [rI_a (by decide)]
theorem ix1 (w : Nat) : nI w + 1 = nI (w + 1) := nI_1 w
theorem ix2 (w : Nat) : nI w + 2 = nI (w + 2) := nI_add w 2
theorem pl_load (h : PlR t u y c σ τ) : ∃ σ' τ' b, F4_loadNext σ t u = some ((), σ') ∧ ((ald 3000 (gI τ 12 0 5) 5).bind fun v_2 => if v_2 = 0 then (some (false, τ)) else ((ald 3000 (gI τ 12 0 5) 5).bind fun v_3 => if v_3 = 0 then none else bnd (sI τ 12 0 0 56 (iRem ((gI τ 12 0 0 56) + 1) v_3)) fun s_4 => some (true, s_4))) = some (b, τ') ∧ PlS t u y c σ τ σ' τ' b := by
  have hh := h
  obtain ⟨⟨k1, k2, k3, k4, k5⟩, -, -, ⟨q, qc, qm, qq⟩, -⟩ := h
  have h5 := ok_n5 k3
  have i5 := ok_i5 k3
  unfold F4_loadNext
  rw [k1.1.2.2.2.2.1, al_5, Option.bind_some, Option.bind_some, qc, qm, nI_1]
  have n5 : gI τ 12 0 5 5 = 0 ↔ nat (gI τ 12 0 5 5) = 0 := by
    constructor
    · intro e; rw [e]; rfl
    · intro e; rw [i5, e]; rfl
  by_cases z : gI τ 12 0 5 5 = 0
  · rw [if_pos z, if_pos z, bnd_eq]
    exact ⟨_, _, _, rfl, rfl, PlS.no hh⟩
  have z' : ¬ nat (gI τ 12 0 5 5) = 0 := fun e => z (n5.mpr e)
  rw [if_neg z, if_neg z, if_neg z]
  have er : iRem (nI (q + 1)) (gI τ 12 0 5 5) = nI ((q + 1) % nat (gI τ 12 0 5 5)) := by
    have := iRem_nI (a := q + 1) (b := nat (gI τ 12 0 5 5)) (by omega) (by omega) (by omega)
    rw [← i5] at this; exact this
  rw [er, bnd_eq]
  by_cases c1 : nat (gI τ 12 0 5 5) ≤ q + 1
  · have e1 : (q + 1) % nat (gI τ 12 0 5 5) = 0 := by
      rw [show q + 1 = nat (gI τ 12 0 5 5) by omega, Nat.mod_self]
    rw [if_pos (show gI τ 12 0 5 5 ≤ nI (q + 1) by rw [i5]; exact nI_le c1 (by omega)), bnd_eq, e1]
    exact ⟨_, _, true, rfl, rfl, PlS.yes (plf_s6.b (plf_m (by decide))) (rI_n (by decide)) (hh.pea (i := 0) (.inl (by omega)))⟩
  · rw [if_neg (show ¬ gI τ 12 0 5 5 ≤ nI (q + 1) by rw [i5]; exact nI_ge (by omega) (by omega)), bnd_eq, Nat.mod_eq_of_lt (by omega)]
    exact ⟨_, _, true, rfl, rfl, PlS.yes (plf_s6.b (plf_m (by decide))) (rI_n (by decide)) (hh.pea (i := q + 1) (.inl (by omega)))⟩
theorem pl_does (h : PlR t u y c σ τ) (hp : p < 60) (hw : w < 2900) (st : StepS (gI σ 5 r) (gI τ 12 0 5) w p) (hn : ¬ gI τ 12 0 5 w = 9) :
    ∃ σ' τ' b, F4_doStep σ t r (nI p) u y = some ((), σ') ∧ F12_does τ (nI w) = some (b, τ') ∧ PlS t u y c σ τ σ' τ' b := by
  have k3 := h.1.2.2.1
  unfold F4_doStep F12_does
  rw [ald_nI (by omega) (by omega), ald_nI (by omega) (by omega), ald_nI (by omega) (by omega), ix1, ix2, Option.bind_some, Option.bind_some, Option.bind_some]
  rcases st with ⟨e0, e1, i, hi, e2, e3⟩ | ⟨e0, e1, e2, e3⟩ | ⟨e0, e1, e2, e3, e4⟩ | ⟨e0, e1, e2, e3, e4⟩ | ⟨e0, e1, i, hi, e2, e3⟩ | ⟨e0, e1⟩ | ⟨e0, e1⟩ | ⟨e0, -⟩
  · rw [e0, e1, e2]
    simp (disch := decide) only [if_pos, if_neg]
    rw [ald_nI (by omega) (by omega), Option.bind_some, e3, bnd_eq, bnd_eq]
    exact ⟨_, _, true, rfl, rfl, PlS.yes (plf_s6.b (plf_m (by decide))) (rI_n (by decide)) (h.pea (.inl hi))⟩
  · rw [e0, e1, e2]
    simp (disch := decide) only [if_pos, if_neg]
    rw [bnd_eq, rI_a (by decide), ald_nI (by omega) (by omega), Option.bind_some, e3, bnd_eq, ald_nI (by omega) (by omega), Option.bind_some, bnd_eq, rI_c (by decide), ald_nI (by omega) (by omega), Option.bind_some, bnd_eq]
    exact ⟨_, _, true, rfl, rfl, PlS.yes ((plf_s6.t plf_s6).b ((plf_m (by decide)).t (plf_m (by decide)))) (by rw [rI_n (by decide), rI_n (by decide)]) (h.aim _ _)⟩
  · rw [e0, e1, e2]
    simp (disch := decide) only [if_pos, if_neg]
    rw [ald_nI (by omega) (by omega), Option.bind_some, bnd_eq, bnd_eq]
    exact ⟨_, _, true, rfl, rfl, PlS.yes (plf_4.b (plf_m (by decide))) (rI_n (by decide)) (h.puff e3 e4)⟩
  · rw [e0, e1, e2]
    simp (disch := decide) only [if_pos, if_neg]
    rw [ald_nI (by omega) (by omega), Option.bind_some, bnd_eq, bnd_eq]
    exact ⟨_, _, true, rfl, rfl, PlS.yes (plf_4.b (plf_m (by decide))) (rI_n (by decide)) (h.beat _)⟩
  · rw [e0, e1, e2]
    simp (disch := decide) only [if_pos, if_neg]
    obtain ⟨σ', τ', b, o1, o2, o3⟩ := pl_shoot h hi
    rw [ald_nI (by omega) (by omega), Option.bind_some, e3, o1, bd_some, o2, bd_some]
    exact ⟨_, _, b, rfl, rfl, o3⟩
  · rw [e0, e1]
    simp (disch := decide) only [if_pos, if_neg]
    rw [bnd_eq, chk_7, bnd_eq, cl_7]
    exact ⟨_, _, true, rfl, rfl, PlS.yes h.wipe.2 (by rw [rI_c (by decide)]) h.wipe.1⟩
  · rw [e0, e1]
    simp (disch := decide) only [if_pos, if_neg]
    obtain ⟨σ', τ', b, o1, o2, o3⟩ := pl_load h
    rw [o1, bd_some]
    exact ⟨_, _, b, rfl, o2, o3⟩
  · exact absurd e0 hn
end PSV
