/-! PURE. round: one step, whatever it holds. -/
section RRE
variable {σ τ σ1 τ1 σ2 τ2 σ0 τ0 : Mem} {L u r s e k t p w P Z S d x p0 : Nat} {A RI RI1 : VI} {AL : VL} {C C1 M : Nat → Int32} {W : Nat → Int64} {B : Nat → Bool} {N : Int32} {G : Mem → Mem → Prop}
theorem StepS.loc {ri : VI} {c c' : Nat → Int32} (h : StepS ri c w p) (c5 : c' 5 = c 5) (c6 : c' 6 = c 6) (c0 : c' w = c w) (c1 : c' (w + 1) = c (w + 1)) (c2 : c' (w + 2) = c (w + 2)) : StepS ri c' w p := by
  unfold StepS at h ⊢
  rw [c5, c6, c0, c1, c2]; exact h
theorem l142_false {rec : Mem → Int32 → Option (Unit × Mem)} {a b : Int32} : F12_readStep_L142 rec a false b fuelK τ = some ((), τ) := by
  obtain ⟨m, hm⟩ : ∃ m, fuelK = m + 1 := ⟨fuelK - 1, by have := fuelK_lt (k := 1) (by omega); omega⟩
  rw [hm]
  simp only [F12_readStep_L142.eq_2]
  rw [if_neg (by decide)]
theorem l142_bad {rec : Mem → Int32 → Option (Unit × Mem)} {a b : Int32} {z : Bool} (h : BS u r σ0 τ0 σ τ) : F12_readStep_L142 rec a z b fuelK τ = some ((), τ) := by
  obtain ⟨m, hm⟩ : ∃ m, fuelK = m + 1 := ⟨fuelK - 1, by have := fuelK_lt (k := 1) (by omega); omega⟩
  rw [hm]
  simp only [F12_readStep_L142.eq_2]
  cases z with
  | true => rw [if_pos rfl, if_neg h.n2]
  | false => rw [if_neg (by decide)]
/-- the model's end of a step, once it is bad -/
theorem p170_bad {z : Bool} {w : Nat} (h : BS u r σ0 τ0 σ τ) (h1 : 2400 ≤ w) (h2 : w < 2990) : ∃ τ2, F12_readStep_p170 τ z (nI w) = some ((), τ2) ∧ BS u r σ0 τ0 σ τ2 := by
  have e8 : nI w + 8 = nI (w + 8) := nI_add w 8
  have mm : ∀ b, F12_must τ b = some ((), τ) := fun b => by unfold F12_must; rw [if_neg h.n1]
  unfold F12_readStep_p170
  cases z with
  | true =>
    rw [if_pos rfl, mm, bdS, mm, bdS, e8, chk_nI (by omega) (by omega), bnd_eq, cl_nI (by omega)]
    exact ⟨_, rfl, h.m5 (by omega)⟩
  | false =>
    rw [if_neg (by decide), e8, chk_nI (by omega) (by omega), bnd_eq, cl_nI (by omega)]
    exact ⟨_, rfl, h.m5 (by omega)⟩
theorem p83_eq {rec : Mem → Int32 → Option (Unit × Mem)} {a kd : Int32} {z : Bool} (h : gI τ 12 0 0 12 ≤ 0) (hN : gI τ 12 0 0 27 = nI S) : F12_readStep_p83 rec τ a kd z = bd (mHdr τ S (2725 + 9 * S) kd) fun _ s_7 => bd (F12_readStep_L142 rec a z (nI (2725 + 9 * S)) fuelK s_7) fun _ s_10 => F12_readStep_p170 s_10 z (nI (2725 + 9 * S)) := by
  unfold F12_readStep_p83 mHdr mRest
  rw [if_pos h, hN, nI_1, show (2725 : Int32) + 9 * nI S = nI (2725 + 9 * S) by rw [show (9 : Int32) = nI 9 from rfl, pk_mul]; exact nI_add 2725 (9 * S)]
  rw [bnd_eq]
  simp only [bd_assoc, bd_bnd, bd_chk, bd_ite, bdS, bd_obind, bd_id, bd_u]
theorem step_is {m : Nat} (nm : NmOk t P Z σ0 τ0) (ht : t ≠ u) (hM : ∀ j, j < 325 → M j = gI τ0 12 0 5 j) (hL : L ≤ 300) (ih : ∀ k, k < m → InnerIs L u r t σ0 τ0 A AL W B M k) : StepIs L u r t σ0 τ0 A AL W B M m := by
  intro D d S p x s e RI C σ τ hm hD hd h ri h2 h3 hx hz he
  obtain ⟨D, rfl⟩ : ∃ k, D = k + 1 := ⟨D - 1, by omega⟩
  obtain ⟨hl1, hl2, hl3⟩ := h.len
  have e1 : gI σ 5 r 0 1 = nI S := by rw [h.2.2.1.2.2]; exact ri.1
  have e2 : gI σ 5 r 0 2 = nI p := by rw [h.2.2.1.2.2]; exact ri.2.1
  have e8 : gI σ 5 r 0 8 = nI d := by rw [h.2.2.1.2.2]; exact ri.2.2
  have rN : gI τ 12 0 0 27 = nI S := h.2.2.2.2.2.2
  show ∃ σ' τ', O12_readStep (R12_readStep D) τ (nI d) = some ((), τ') ∧ _
  unfold O12_readStep
  rw [bnd_eq, m_stepWord]
  -- a fault found by the class's turn
  have fault : ∀ {σ1 τ1 : Mem}, BS u r σ0 τ0 σ1 τ1 → (¬ gI τ 12 0 0 14 = 0) → cIt σ r t p = some (false, σ1) → RdB L u r t σ0 τ0 s x σ σ1 τ1 := by
    intro σ1 τ1 b hk hc
    have := hl3 hk
    exact ⟨b, 1, by omega, cl_no (by rw [h.kind]; exact hk) (by omega) e2 hc⟩
  rcases st_range (wix τ) with kd | kd
  · -- no step begins so
    rw [kd, if_neg (show ¬ (-1 : Int32) = 7 by decide), if_neg (show ¬ (-1 : Int32) = 8 by decide)]
    unfold F12_readStep_p22
    rw [if_neg (show ¬ (0 : Int32) ≤ -1 by decide)]
    obtain ⟨σ1, o1, τ1, o2, o3⟩ := h.wrong
    rw [o2, bdS, b_p31 o3]
    refine ⟨σ1, τ1, rfl, .inr ?_⟩
    by_cases k0 : gI τ 12 0 0 14 = 0
    · refine ⟨o3, 1, by omega, fun n => ?_⟩
      have hd0 : ¬ d = 0 := fun e => hz e k0
      have p97 : F5_parse_p97 σ r = some (false, σ1) := by
        unfold F5_parse_p97
        rw [e8, if_neg (nI_ne0 (by omega) (by omega)), o1, bdS, if_neg (by decide)]
      simp only [F5_parse_L6.eq_2]
      rw [h.kind, if_pos k0]
      split <;> exact p97
    · refine fault o3 k0 ?_
      unfold cIt
      by_cases k28 : gI σ 8 0 0 5 = 28
      · rw [if_pos k28]
        have hd0 : d = 0 := Decidable.byContradiction fun e => he e (h.idx.symm.trans k28)
        subst hd0
        unfold F5_ends
        rw [e8, if_pos (show nI 0 ≤ (0 : Int32) from Int32.le_refl _), o1, bdS, bdS, if_neg (by decide)]
      · rw [if_neg k28]
        have ns : ¬ F5_isStep (gI σ 8 0 0 5) = true := by
          rw [h.idx]
          rcases wix_is (τ := τ) with q | ⟨i, hi, q⟩
          · rw [q]; decide
          · rw [q] at kd ⊢
            exact fun e => ((isStep_st ⟨i, hi⟩).mp e) kd
        unfold cHdr F5_begins
        rw [if_neg ns, o1, bdS, bdS, if_neg (by decide)]
  · -- a step's word
    obtain ⟨i, hi, q⟩ : ∃ i, i < 30 ∧ wix τ = nI i := by
      rcases wix_is (τ := τ) with q | q
      · rw [q] at kd; exact absurd kd (by decide)
      · exact q
    have k1 : gI τ 12 0 0 14 = 1 := wix_go hi q
    have g := go1 k1
    have k0 : ¬ gI τ 12 0 0 14 = 0 := g.1
    have hsL := hl3 k0
    have km : ¬ stW (wix τ) = -1 := fun e => by rw [e] at kd; exact absurd kd (by decide)
    have st : F5_isStep (wix τ) = true := by rw [q] at km ⊢; exact (isStep_st ⟨i, hi⟩).mpr km
    have n28 : ¬ wix τ = 28 := fun e => km (by rw [e]; decide)
    have p22 : ∀ z, F12_readStep_p22 (R12_readStep D) τ (nI d) (stW (wix τ)) z = F12_readStep_p31 (R12_readStep D) τ (nI d) (stW (wix τ)) z := fun z => by unfold F12_readStep_p22; rw [if_pos kd]
    rw [p22, p22]
    by_cases hS : S = 30
    · subst hS
      obtain ⟨σ1, o1, τ1, o2, o3⟩ := h.bad (k := 6) (by decide) g.2
      have p31 : ∀ z, F12_readStep_p31 (R12_readStep D) τ (nI d) (stW (wix τ)) z = some ((), τ1) := fun z => by
        unfold F12_readStep_p31
        rw [if_pos h.2.1.1, rN, if_pos (show nI 30 = (30 : Int32) from rfl), o2, bdS, b_p57 o3]
      rw [p31, p31]
      refine ⟨σ1, τ1, by split <;> (try split) <;> rfl, .inr (fault o3 k0 ?_)⟩
      unfold cIt cHdr F5_begins
      rw [h.idx, if_neg n28, if_pos st, e1, if_pos (show (30 : Int32) ≤ nI 30 from Int32.le_refl _), o1, bdS, bdS, if_neg (by decide)]
    have p31 : ∀ z, F12_readStep_p31 (R12_readStep D) τ (nI d) (stW (wix τ)) z = F12_readStep_p57 (R12_readStep D) τ (nI d) (stW (wix τ)) z := fun z => by
      unfold F12_readStep_p31
      rw [if_pos h.2.1.1, rN, if_neg (show ¬ nI S = (30 : Int32) from fun e => hS ((nI_eq (by omega) (by omega)).mp (e.trans (show (30 : Int32) = nI 30 from rfl))))]
    rw [p31, p31]
    have w0 : 2725 + 9 * S < 2990 := by omega
    have e8w : nI (2725 + 9 * S) + 8 = nI (2725 + 9 * S + 8) := nI_add _ 8
    have kinds := step_kinds ⟨i, hi⟩ (by rw [q] at km; exact km)
    simp only at kinds
    rw [← q] at kinds
    rcases kinds with kS | kB
    · -- a simple step
      have n7 : ¬ stW (wix τ) = 7 := by rcases kS with ⟨-, z⟩ | ⟨-, z⟩ | ⟨-, z⟩ | ⟨-, z⟩ | ⟨-, z⟩ | ⟨-, z⟩ | ⟨-, z⟩ | ⟨-, z⟩ <;> rw [z] <;> decide
      have n8 : ¬ stW (wix τ) = 8 := by rcases kS with ⟨-, z⟩ | ⟨-, z⟩ | ⟨-, z⟩ | ⟨-, z⟩ | ⟨-, z⟩ | ⟨-, z⟩ | ⟨-, z⟩ | ⟨-, z⟩ <;> rw [z] <;> decide
      rw [if_neg n7, if_neg n8]
      unfold F12_readStep_p57
      rw [if_pos h.2.1.1, if_neg (by decide), p83_eq h.ok rN]
      obtain ⟨σ1, τ1, y1, ⟨x1, s', e', RI', C', a1, a2, a3, a4, a5, a6, a7⟩ | ⟨x1, b1⟩⟩ := hdr_S h nm ht hM ri (by omega) (by omega) rfl kS g
      · have a27 : gI τ1 12 0 0 27 = nI (S + 1) := a2.2.2.2.2.2.2
        rw [y1, bdS, l142_false, bdS]
        unfold F12_readStep_p170
        rw [if_neg (by decide), e8w, chk_nI (by omega) (by omega), bnd_eq, cl_nI (by omega), a27]
        refine ⟨σ1, _, rfl, .inl ⟨1, x + 1, s', e', S + 1, p + 1, RI', _, cl_go (by rw [h.kind]; exact k0) (by omega) e2 ?_, by omega, by omega, by omega, a2.m5 (by omega), ⟨a3, by omega, by omega, by omega, by omega⟩, ?_, fun x j b1 b2 b3 => a4 x j b1 b2 (by omega), a5, fun j hj => by rw [upd_ne (by omega)]; exact a6 j hj, trivial⟩⟩
        · unfold cIt
          rw [h.idx, if_neg n28]; exact x1
        · have mx : ∀ j, ¬ j = 325 + 9 * S + 8 → mix M (upd C' (2725 + 9 * S + 8) (nI (S + 1))) j = mix M C' j := fun j hj => by
            by_cases c : j < 325
            · rw [mix_lo c, mix_lo c]
            · rw [mix_hi (by omega), mix_hi (by omega), upd_ne (by omega)]
          refine Seg.trim 2 _ _ _ _ _ _ (.inr ⟨by omega, .inl ⟨a7.loc (mx _ (by omega)) (mx _ (by omega)) (mx _ (by omega)) (mx _ (by omega)) (mx _ (by omega)), ?_, .inl ⟨rfl, rfl⟩⟩⟩) (by omega)
          rw [mix_hi (by omega), show 2400 + (325 + 9 * S + 8) = 2725 + 9 * S + 8 by omega, upd_s]
      · rw [y1, bdS, l142_bad b1, bdS]
        obtain ⟨τ2, c1, c2⟩ := p170_bad (z := false) (w := 2725 + 9 * S) b1 (by omega) w0
        rw [c1]
        refine ⟨σ1, τ2, rfl, .inr (fault c2 k0 ?_)⟩
        unfold cIt
        rw [h.idx, if_neg n28]; exact x1
    · -- a when or a loop
      have k78 : (if stW (wix τ) = 7 then F12_readStep_p57 (R12_readStep D) τ (nI d) (stW (wix τ)) true else if stW (wix τ) = 8 then F12_readStep_p57 (R12_readStep D) τ (nI d) (stW (wix τ)) true else F12_readStep_p22 (R12_readStep D) τ (nI d) (stW (wix τ)) false) = F12_readStep_p57 (R12_readStep D) τ (nI d) (stW (wix τ)) true := by
        rcases kB with ⟨-, z⟩ | ⟨-, z⟩
        · rw [z, if_pos rfl]
        · rw [z, if_neg (by decide), if_pos rfl]
      have k78' : ∀ Y, (if stW (wix τ) = 7 then F12_readStep_p57 (R12_readStep D) τ (nI d) (stW (wix τ)) true else if stW (wix τ) = 8 then F12_readStep_p57 (R12_readStep D) τ (nI d) (stW (wix τ)) true else Y) = F12_readStep_p57 (R12_readStep D) τ (nI d) (stW (wix τ)) true := by
        intro Y
        rcases kB with ⟨-, z⟩ | ⟨-, z⟩
        · rw [z, if_pos rfl]
        · rw [z, if_neg (by decide), if_pos rfl]
      rw [k78']
      unfold F12_readStep_p57
      rw [if_pos h.2.1.1, if_pos rfl]
      by_cases hd3 : d = 3
      · subst hd3
        obtain ⟨σ1, o1, τ1, o2, o3⟩ := h.bad (k := 7) (by decide) g.2
        rw [if_pos (show nI 3 = (3 : Int32) from rfl), o2, bdS, b_p83 o3]
        refine ⟨σ1, τ1, rfl, .inr (fault o3 k0 ?_)⟩
        have p50 : F5_begins_p50 σ r (wix τ) = some (false, σ1) := by
          unfold F5_begins_p50
          rw [e8, if_neg (show ¬ nI 3 < (3 : Int32) by decide), o1, bdS]
        unfold cIt cHdr F5_begins
        rw [h.idx, if_neg n28, if_pos st, e1, if_neg (show ¬ (30 : Int32) ≤ nI S from nI_ge (a := S) (b := 30) (by omega) (by omega)), e2, if_pos (show nI p < (60 : Int32) from nI_lt (b := 60) (by omega) (by omega)), p50]
        rcases kB with ⟨z, -⟩ | ⟨z, -⟩
        · rw [z, if_pos rfl, bdS, if_neg (by decide)]
        · rw [z, if_neg (by decide), if_pos rfl, bdS, if_neg (by decide)]
      rw [if_neg (show ¬ nI d = (3 : Int32) from fun e => hd3 ((nI_eq (by omega) (by omega)).mp (e.trans (show (3 : Int32) = nI 3 from rfl)))), p83_eq h.ok rN]
      obtain ⟨σ1, τ1, y1, ⟨x1, s1, e1', RI1, C1, a1, a2, a3, a4, a5, a6, a7, a7'⟩ | ⟨x1, b1⟩⟩ := hdr_B h nm ht hM ri (by omega) (by omega) (by omega) rfl kB g
      rotate_left
      · rw [y1, bdS, l142_bad b1, bdS]
        obtain ⟨τ2, c1, c2⟩ := p170_bad (z := true) (w := 2725 + 9 * S) b1 (by omega) w0
        rw [c1]
        refine ⟨σ1, τ2, rfl, .inr (fault c2 k0 ?_)⟩
        unfold cIt
        rw [h.idx, if_neg n28]; exact x1
      have it1 : ∀ n, F5_parse_L6 r t (n + 1) σ (nI x) = F5_parse_L6 r t n σ1 (nI (x + 1)) := cl_go (by rw [h.kind]; exact k0) (by omega) e2 (by unfold cIt; rw [h.idx, if_neg n28]; exact x1)
      have hl1' := a2.len
      obtain ⟨σ2, τ2, q1, q2⟩ := ih (L - s1) (by omega) D d (S + 1) (p + 1) (x + 1) s1 e1' RI1 C1 σ1 τ1 (nI (2725 + 9 * S)) fuelK (Nat.le_refl _) (by omega) (by omega) a2 a3 (by omega) (by omega) (by omega) (fuelK_lt (by omega))
      rw [y1, bdS, q1, bdS]
      rcases q2 with ⟨K, x2, s2, e2', S2, p2, RI2, C2, b1, b2, b3, b4, b5, ⟨b6, b7, b8, b9, b10⟩, b11, b12, b13, b14, b15⟩ | ⟨bb, K, k2, k3⟩
      rotate_left
      · obtain ⟨τ3, c1, c2⟩ := p170_bad (z := true) (w := 2725 + 9 * S) bb (by omega) w0
        rw [c1]
        exact ⟨σ2, τ3, rfl, .inr ⟨c2, K + 1, by omega, fun n => by rw [← Nat.add_assoc, it1, k3]⟩⟩
      -- the block's end
      have hp2 : p2 < 60 := by omega
      have ho : RI2 6 d = nI p := by rw [b13 d (by omega)]; exact a7'
      have k02 : ¬ gI τ2 12 0 0 14 = 0 := (go1 (wix_go (i := 28) (by omega) b15)).1
      have hl2' := b5.len
      have hs2 := hl2'.2.2 k02
      have e22 : gI σ2 5 r 0 2 = nI p2 := by rw [b5.2.2.1.2.2]; exact b6.2.1
      have h528 : gI σ2 8 0 0 5 = 28 := b5.idx.trans b15
      obtain ⟨σ3, τ3, y3, ⟨x3, s3, e3', RI3', c1, c2, c3, c4, ⟨c5, c6, c7⟩, c8⟩ | ⟨x3, bb⟩⟩ := end_it b5 b6 (by omega) hp2 (show p < p2 by omega) ho b15
      · unfold F12_readStep_p170
        have c27 : gI τ3 12 0 0 27 = nI S2 := c2.2.2.2.2.2.2
        rw [if_pos rfl, bd_two y3, e8w, chk_nI (by omega) (by omega), bnd_eq, cl_nI (by omega), c27]
        have it3 : ∀ n, F5_parse_L6 r t (n + 1) σ2 (nI x2) = F5_parse_L6 r t n σ3 (nI (x2 + 1)) := cl_go (by rw [b5.kind]; exact k02) (by omega) e22 (by unfold cIt; rw [if_pos h528]; exact x3)
        have b14' : ∀ j, j < 2725 + 9 * (S + 1) → C2 j = C1 j := b14
        refine ⟨σ3, _, rfl, .inl ⟨1 + (K + 1), x2 + 1, s3, e3', S2, p2 + 1, RI3', _, fun n => ?_, by omega, by omega, by omega, c2.m5 (by omega), ⟨c3, by omega, by omega, by omega, by omega⟩, ?_, fun x j d1 d2 d3 => ?_, fun j hj => ?_, fun j hj => ?_, trivial⟩⟩
        · rw [show n + (1 + (K + 1)) = n + 1 + K + 1 by omega, it1, b1, it3]
        · -- the stretch: this block alone
          have mx : ∀ j, ¬ j = 325 + 9 * S + 8 → mix M (upd C2 (2725 + 9 * S + 8) (nI S2)) j = mix M C2 j := fun j hj => by
            by_cases c : j < 325
            · rw [mix_lo c, mix_lo c]
            · rw [mix_hi (by omega), mix_hi (by omega), upd_ne (by omega)]
          have mx1 : ∀ j, ¬ j = 325 + 9 * S + 8 → j < 325 + 9 * S + 8 → mix M (upd C2 (2725 + 9 * S + 8) (nI S2)) j = mix M C1 j := fun j hj h8 => by
            rw [mx j hj]
            by_cases c : j < 325
            · rw [mix_lo c, mix_lo c]
            · rw [mix_hi (by omega), mix_hi (by omega), b14' _ (by omega)]
          have r3 : ∀ k, 1 ≤ k → k ≤ 4 → RI3' k p = RI1 k p := fun k d1 d2 => by rw [c4 k p d1 (by omega) (by omega) (by omega)]; exact b12 k p d1 (by omega) (by omega)
          have sb : StepB RI3' (mix M (upd C2 (2725 + 9 * S + 8) (nI S2))) (325 + 9 * S) p p2 := by
            refine ⟨⟨c5, c6, c7⟩, ?_⟩
            unfold StepB2 at a7
            rw [r3 1 (by omega) (by omega), r3 2 (by omega) (by omega), r3 3 (by omega) (by omega), r3 4 (by omega) (by omega), mx1 (325 + 9 * S) (by omega) (by omega), mx1 (325 + 9 * S + 1) (by omega) (by omega), mx1 (325 + 9 * S + 2) (by omega) (by omega), mx1 (325 + 9 * S + 6) (by omega) (by omega), mx1 (325 + 9 * S + 7) (by omega) (by omega), mx1 6 (by omega) (by omega)]
            exact a7
          have inn : Seg RI3' (mix M (upd C2 (2725 + 9 * S + 8) (nI S2))) (S2 - (S + 1) + 1) (3 - (d + 1)) (S + 1) S2 (p + 1) p2 :=
            Seg.loc (mx 5 (by omega)) (mx 6 (by omega)) _ _ _ _ _ _ (fun k d1 d2 j d3 d4 => c4 k j d1 d2 (by omega) (by omega)) (fun j d1 d2 => mx j (by omega)) b11
          have h3d : 3 - d = (3 - (d + 1)) + 1 := by omega
          refine Seg.trim (S2 - (S + 1) + 1 + 1) _ _ _ _ _ _ (.inr ⟨by omega, .inr ⟨S2, p2, 3 - (d + 1), h3d, by omega, Nat.le_refl _, ?_, sb, inn, .inl ⟨rfl, rfl⟩⟩⟩) (by omega)
          rw [mix_hi (by omega), show 2400 + (325 + 9 * S + 8) = 2725 + 9 * S + 8 by omega, upd_s]
        · rw [c4 x j d1 d2 (by omega) (by omega), b12 x j d1 d2 (by omega)]; exact a4 x j d1 d2 (by omega)
        · rw [c8, b13 j (by omega)]; exact a5 j hj
        · rw [upd_ne (by omega), b14' j (by omega)]; exact a6 j hj
      · obtain ⟨τ4, z1, z2⟩ : ∃ τ4, F12_readStep_p170 τ2 true (nI (2725 + 9 * S)) = some ((), τ4) ∧ BS u r σ0 τ0 σ3 τ4 := by
          unfold F12_readStep_p170
          rw [if_pos rfl, bd_two y3, e8w, chk_nI (by omega) (by omega), bnd_eq, cl_nI (by omega)]
          exact ⟨_, rfl, bb.m5 (by omega)⟩
        rw [z1]
        have it3 : ∀ n, F5_parse_L6 r t (n + 1) σ2 (nI x2) = some (false, σ3) := cl_no (by rw [b5.kind]; exact k02) (by omega) e22 (by unfold cIt; rw [if_pos h528]; exact x3)
        exact ⟨σ3, τ4, rfl, .inr ⟨z2, 1 + (K + 1), by omega, fun n => by rw [show n + (1 + (K + 1)) = n + 1 + K + 1 by omega, it1, b1, it3]⟩⟩
theorem both_is (nm : NmOk t P Z σ0 τ0) (ht : t ≠ u) (hM : ∀ j, j < 325 → M j = gI τ0 12 0 5 j) (hL : L ≤ 300) : ∀ m, InnerIs L u r t σ0 τ0 A AL W B M m ∧ StepIs L u r t σ0 τ0 A AL W B M m := by
  intro m
  induction m using Nat.strongRecOn with
  | ind m ih =>
    have st : StepIs L u r t σ0 τ0 A AL W B M m := step_is nm ht hM hL (fun k hk => (ih k hk).1)
    exact ⟨inner_is st (fun k hk => (ih k hk).1), st⟩
end RRE
