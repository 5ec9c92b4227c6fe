/-! PURE. round: aim, when. -/
section RRB
variable {σ τ σ1 τ1 σ2 τ2 σ0 τ0 : Mem} {L u r s e k t p w P S : Nat} {A RI RI1 : VI} {AL : VL} {C C1 : Nat → Int32} {W : Nat → Int64} {B : Nat → Bool} {N : Int32} {G : Mem → Mem → Prop}
theorem must_yes (h : gI τ 12 0 0 12 ≤ 0) : F12_must τ true = F12_next τ := by
  unfold F12_must
  rw [if_pos h, if_pos rfl, bd_u]
theorem must_no (h : gI τ 12 0 0 12 ≤ 0) : F12_must τ false = F12_wrong τ := by
  unfold F12_must
  rw [if_pos h, if_neg (by decide), bd_u]
theorem aim_fin {RI0 : VI} {C0 : Nat → Int32} {s0 : Nat} {vx vy : Int32} (h : GS L u r σ0 τ0 s e A AL RI C W B N σ τ) (hs : s0 ≤ s) (hp : p < 60) (hw0 : 2400 ≤ w) (hw : w < 2990)
    (hR : ∀ x j, ¬ ((x = 2 ∨ x = 3 ∨ x = 4) ∧ j = p) → RI x j = RI0 x j) (hC : ∀ j, ¬ (w < j ∧ j < w + 8) → C j = C0 j) (c1 : C (w + 1) = vx) (c2 : C (w + 2) = vy) :
    Fin2 u r σ0 τ0 (RG L u r σ0 τ0 s0 p w A AL RI0 C0 W B N fun R' C' => R' 2 p = C' (w + 1) ∧ R' 3 p = C' (w + 2)) (bd (F5_parseAim_p54 σ r (nI p) vy r (nI p) vx) fun v s => if v = true then F8_takeSemicolon s else some (false, s)) (bd (F12_readAim_p65 τ (nI w)) fun _ s => F12_must s (F12_isSign s 59)) := by
  unfold F5_parseAim_p54 F12_readAim_p65
  simp only [bd_assoc, bd_bnd, bd_chk, bd_ite, bdS, bd_obind, bd_id, bd_u, eq_self, if_true, Bool.false_eq_true, if_false]
  rw [if_pos h.2.1.1, ix2]
  refine k_c5i h hp (by omega) (fun σ1 h1 => ?_)
  have eC : ald 3000 (gI τ 12 0 5) (nI (w + 2)) = some vy := by rw [h.cc, ald_nI (by omega) (by omega), c2]
  have hR1 : ∀ v x j, ¬ ((x = 2 ∨ x = 3 ∨ x = 4) ∧ j = p) → uV (uV RI 2 p vx) 3 p v x j = RI0 x j := fun v x j hq => by rw [uV_n (fun h => hq ⟨by omega, h.2⟩), uV_n (fun h => hq ⟨by omega, h.2⟩)]; exact hR x j hq
  by_cases kl : wix τ = nI 16
  · rw [h1.skip_yes (x := 16) (i := 16) rfl kl, if_pos ((w_low (τ := τ)).mpr kl), eC, Option.bind_some]
    refine k_m5 h1 rfl (by omega) (by omega) (fun τ2 h2 w2 => ?_)
    obtain ⟨σ3, τ3, s3, e3, o1, o2, l3, h3, -⟩ := h2.nxt (go1 (wix_go (i := 16) (by omega) (w2.trans kl)))
    rw [o1, o2]
    simp only [bdS, if_true]
    refine k_c5i h3 hp (by omega) (fun σ4 h4 => ?_)
    exact RG.mk h4 (by omega) (hR1 _) (fun j hj => by rw [upd_ne (by omega)]; exact hC j hj) ⟨by rw [uV_n (by omega), uV_s, upd_ne (by omega), c1], by rw [uV_s, upd_s]⟩
  · rw [h1.skip_no (x := 16) (i := 16) rfl kl, if_neg (fun e => kl ((w_low (τ := τ)).mp e))]
    simp only [bdS, Bool.false_eq_true, if_false]
    refine k_c5i h1 hp (by omega) (fun σ4 h4 => ?_)
    exact RG.mk h4 hs (hR1 _) hC ⟨by rw [uV_n (by omega), uV_s, c1], by rw [uV_s, c2]⟩
theorem b_aim65 (hb : BS u r σ0 τ0 σ τ) {x : Int32} : BR u r σ0 τ0 σ (bd (F12_readAim_p65 τ x) fun _ s => F12_must s (F12_isSign s 59)) := by
  unfold F12_readAim_p65
  rw [if_neg hb.n2, bdS]
  exact b_must0 hb
theorem rest_aim (h : GS L u r σ0 τ0 s e A AL RI C W B N σ τ) (hp : p < 60) (hw0 : 2400 ≤ w) (hw : w < 2990) (hc : C w = 1) :
    Fin2 u r σ0 τ0 (RG L u r σ0 τ0 s p w A AL RI C W B N fun R' C' => R' 2 p = C' (w + 1) ∧ R' 3 p = C' (w + 2)) (cRest σ r t 18 p) (mRest τ w) := by
  have eC : ald 3000 (gI τ 12 0 5) (nI w) = some 1 := by rw [h.cc, ald_nI (by omega) (by omega), hc]
  unfold cRest mRest F5_parseRest F5_parseAim F12_readRest F12_readAim
  rw [eC, Option.bind_some, ix1, ix2]
  simp (disch := decide) only [if_pos, if_neg, bd_assoc, bd_bnd, bd_chk, bd_ite, bdS, bd_obind, bd_id, bd_u, Bool.false_eq_true, if_false, if_true]
  refine k_num h (fun v σ1 τ1 s1 e1 v1 v2 l1 q1 h1 => ?_) (fun σ1 τ1 hb => ?_)
  rotate_left
  · refine b_cell hb rfl (by omega) (by omega) (fun τ2 hb => ?_)
    refine b_count hb ?_
    refine b_cell hb rfl (by omega) (by omega) (fun τ2 hb => ?_)
    exact b_eq hb (b_aim65 hb)
  rw [bnd_eq, q1]
  refine k_m5 h1 rfl (by omega) (by omega) (fun τ2 h2 _ => ?_)
  refine k_num h2 (fun v' σ3 τ3 s3 e3 v1' v2' l3 q3 h3 => ?_) (fun σ3 τ3 hb => ?_)
  rotate_left
  · refine b_cell hb rfl (by omega) (by omega) (fun τ2 hb => ?_)
    exact b_eq hb (b_aim65 hb)
  rw [bnd_eq, q3]
  refine k_m5 h3 rfl (by omega) (by omega) (fun τ4 h4 w4 => ?_)
  rw [if_pos h4.2.1.1]
  have eC4 : ald 3000 (gI τ4 12 0 5) (nI (w + 1)) = some v := by rw [h4.cc, ald_nI (by omega) (by omega), upd_ne (by omega), upd_s]
  by_cases kl : wix τ4 = nI 4
  · rw [h4.skip_yes (x := 4) (i := 4) rfl kl, if_pos ((w_left (τ := τ4)).mpr kl), eC4, Option.bind_some]
    refine k_m5 h4 rfl (by omega) (by omega) (fun τ5 h5 w5 => ?_)
    obtain ⟨σ6, τ6, s6, e6, o1, o2, l6, h6, -⟩ := h5.nxt (go1 (wix_go (i := 4) (by omega) (w5.trans kl)))
    rw [o1, o2]
    simp only [bdS, if_true]
    exact aim_fin h6 (by omega) hp hw0 hw (fun _ _ _ => rfl) (fun j hj => by rw [upd_ne (by omega), upd_ne (by omega), upd_ne (by omega)]) upd_s (by rw [upd_ne (by omega), upd_s])
  · rw [h4.skip_no (x := 4) (i := 4) rfl kl, if_neg (fun e => kl ((w_left (τ := τ4)).mp e))]
    simp only [bdS, Bool.false_eq_true, if_false]
    exact aim_fin h4 (by omega) hp hw0 hw (fun _ _ _ => rfl) (fun j hj => by rw [upd_ne (by omega), upd_ne (by omega)]) (by rw [upd_ne (by omega), upd_s]) upd_s
/-- what a when's place and cells hold -/
def WhenQ (S p w : Nat) (R' : VI) (C' : Nat → Int32) : Prop :=
  (R' 3 p = C' (w + 7) ∧ R' 4 p = C' (w + 2) ∧ (C' (w + 7) = 60 ∨ C' (w + 7) = 61 ∨ C' (w + 7) = 62)) ∧
  ((C' (w + 6) = 0 ∧ ∃ i, i < S ∧ R' 2 p = nI i ∧ C' (w + 1) = nI i) ∨ (C' (w + 6) = 1 ∧ R' 2 p = -1) ∨ (C' (w + 6) = 2 ∧ R' 2 p = -2))
theorem b_test111 (hb : BS u r σ0 τ0 σ τ) {ts : Int32} {z : Bool} (hw0 : 2400 ≤ w) (hw : w < 2990) : BR u r σ0 τ0 σ (bd (F12_readTest_p111 τ (nI w) ts z) fun _ s => F12_must s (F12_isSign s 59)) := by
  unfold F12_readTest_p111
  simp only [bd_assoc, bd_bnd, bd_chk, bd_ite, bdS, bd_obind, bd_id, bd_u]
  refine b_must hb ?_
  rw [ix2]
  refine b_if (fun _ => ?_) (fun _ => ?_)
  · exact b_count hb (b_cell hb rfl (by omega) (by omega) (fun τ2 hb => b_must0 hb))
  · refine b_if (fun _ => ?_) (fun _ => ?_)
    · exact b_count hb (b_cell hb rfl (by omega) (by omega) (fun τ2 hb => b_must0 hb))
    · exact b_count hb (b_cell hb rfl (by omega) (by omega) (fun τ2 hb => b_must0 hb))
theorem b_test45 (hb : BS u r σ0 τ0 σ τ) {x ts : Int32} : BR u r σ0 τ0 σ (bd (F12_readTest_p45 τ x ts) fun _ s => F12_must s (F12_isSign s 59)) := by
  unfold F12_readTest_p45
  rw [if_neg hb.n1, bdS]
  exact b_must0 hb
/-- the comparison and its number -/
theorem test_end {RI0 : VI} {C0 : Nat → Int32} {s0 : Nat} {ts most : Int32} (h : GS L u r σ0 τ0 s e A AL RI C W B N σ τ) (hs : s0 ≤ s) (hp : p < 60) (hw0 : 2400 ≤ w) (hw : w < 2990) (hm : most = (if ts = 0 then 999 else if ts = 1 then 60 else 20))
    (hR : ∀ x j, ¬ ((x = 2 ∨ x = 3 ∨ x = 4) ∧ j = p) → RI x j = RI0 x j) (hC : ∀ j, ¬ (w < j ∧ j < w + 8) → C j = C0 j) (c6 : C (w + 6) = ts)
    (q : (ts = 0 ∧ ∃ i, i < S ∧ RI 2 p = nI i ∧ C (w + 1) = nI i) ∨ (ts = 1 ∧ RI 2 p = -1) ∨ (ts = 2 ∧ RI 2 p = -2)) :
    Fin2 u r σ0 τ0 (RG L u r σ0 τ0 s0 p w A AL RI0 C0 W B N (WhenQ S p w)) (bd (F5_parseTest_p96 σ r (nI p) most) fun v s => if v = true then F8_takeSemicolon s else some (false, s)) (bd (F12_readTest_p45 τ (nI w) ts) fun _ s => F12_must s (F12_isSign s 59)) := by
  have s3 := h.1.2.2.2.2.1
  -- behind the comparison
  have nb : ∀ {v : Int32} {τ'}, (v = 60 ∨ v = 61 ∨ v = 62) → gI σ 8 0 0 8 = v → gI τ 12 0 0 14 = 3 → gI τ 12 0 0 17 = v → GS L u r σ0 τ0 s e A AL RI (upd C (w + 7) v) W B N σ τ' → gI τ' 12 0 0 14 = 3 →
      Fin2 u r σ0 τ0 (RG L u r σ0 τ0 s0 p w A AL RI0 C0 W B N (WhenQ S p w))
        (bnd (sI σ 8 0 0 9 v) fun s_1 => bd (F8_advance s_1) fun _ s_11 => (chk 60 (nI p) <| bnd (sI s_11 5 r 3 (Int32.toNatClampNeg (nI p)) (gI s_11 8 0 0 9)) fun s_12 => bd (F8_takeNumber s_12 0 most) fun v_13 s_14 => if v_13 = true then (chk 60 (nI p) <| bnd (sI s_14 5 r 4 (Int32.toNatClampNeg (nI p)) (gI s_14 8 0 0 9)) fun s_15 => F8_takeSemicolon s_15) else some (false, s_14)))
        (bd (F12_readTest_p111 τ' (nI w) ts true) fun _ s => F12_must s (F12_isSign s 59)) := by
    intro v τ' hv e8 e14 e17 h7 k14
    have hb1 : gI τ' 12 0 0 12 ≤ 0 := h7.ok
    rw [bnd_eq]
    obtain ⟨σ1, τ1, s1, e1, o1, o2, l1, h1, q1⟩ := (h7.w9 (v := v)).nxt (go3 k14)
    unfold F12_readTest_p111
    simp only [bd_assoc, bd_bnd, bd_chk, bd_ite, bdS, bd_obind, bd_id, bd_u]
    rw [must_yes hb1, o1, o2, bdS, bdS, q1, rI_s, ix2]
    refine k_c5i h1 hp (by omega) (fun σ2 h2 => ?_)
    have fin : Fin2 u r σ0 τ0 (RG L u r σ0 τ0 s0 p w A AL RI0 C0 W B N (WhenQ S p w)) (bd (F8_takeNumber σ2 0 most) fun v_13 s_14 => if v_13 = true then (chk 60 (nI p) <| bnd (sI s_14 5 r 4 (Int32.toNatClampNeg (nI p)) (gI s_14 8 0 0 9)) fun s_15 => F8_takeSemicolon s_15) else some (false, s_14))
        (bd (F12_count τ1 0 most) fun v_12 s_13 => chk 3000 (nI (w + 2)) <| bnd (sI s_13 12 0 5 (Int32.toNatClampNeg (nI (w + 2))) v_12) fun s_14 => F12_must s_14 (F12_isSign s_14 59)) := by
      refine k_num h2 (fun v' σ3 τ3 s3 e3 v1' v2' l3 q3 h3 => ?_) (fun σ3 τ3 hb => ?_)
      rotate_left
      · exact b_cell hb rfl (by omega) (by omega) (fun τ2 hb => b_must0 hb)
      rw [q3]
      refine k_c5i h3 hp (by omega) (fun σ4 h4 => ?_)
      refine k_m5 h4 rfl (by omega) (by omega) (fun τ5 h5 _ => ?_)
      refine RG.mk h5 (by omega) (fun x j hq => by rw [uV_n (fun h => hq ⟨by omega, h.2⟩), uV_n (fun h => hq ⟨by omega, h.2⟩)]; exact hR x j hq) (fun j hj => by rw [upd_ne (by omega), upd_ne (by omega)]; exact hC j hj) ⟨⟨?_, ?_, ?_⟩, ?_⟩
      · rw [uV_n (by omega), uV_s, upd_ne (by omega), upd_s]
      · rw [uV_s, upd_s]
      · rw [upd_ne (by omega), upd_s]; exact hv
      · rw [upd_ne (by omega), upd_ne (by omega), c6, upd_ne (show ¬ w + 1 = w + 2 by omega), upd_ne (show ¬ w + 1 = w + 7 by omega), uV_n (by omega), uV_n (by omega)]
        exact q
    by_cases t0 : ts = 0
    · rw [if_pos t0]; rw [if_pos t0] at hm; subst hm; exact fin
    · rw [if_neg t0]; rw [if_neg t0] at hm
      by_cases t1 : ts = 1
      · rw [if_pos t1]; rw [if_pos t1] at hm; subst hm; exact fin
      · rw [if_neg t1]; rw [if_neg t1] at hm; subst hm; exact fin
  unfold F5_parseTest_p96 F8_takeCompares F12_readTest_p45 F12_readTest_p77
  simp only [bd_assoc, bd_bnd, bd_chk, bd_ite, bdS, bd_obind, bd_id, bd_u, eq_self, Bool.false_eq_true, if_false, if_true]
  rw [if_pos h.ok, show nI w + 7 = nI (w + 7) from nI_add w 7]
  have hs60 := h.sign (v := 60) (by decide)
  have hs61 := h.sign (v := 61) (by decide)
  have hs62 := h.sign (v := 62) (by decide)
  by_cases k3 : gI τ 12 0 0 14 = 3
  · rw [if_pos k3] at s3
    rw [if_pos k3, s3]
    refine k_m5 h rfl (by omega) (by omega) (fun τ1 h1 _ => ?_)
    have k14 : gI τ1 12 0 0 14 = 3 := h1.kind.symm.trans (h.kind.trans k3)
    have k17 : gI σ 8 0 0 8 = gI τ 12 0 0 17 := s3
    have t60 := h1.sign (v := 60) (by decide)
    have t61 := h1.sign (v := 61) (by decide)
    have t62 := h1.sign (v := 62) (by decide)
    by_cases v60 : gI τ 12 0 0 17 = 60
    · rw [v60] at s3 h1 ⊢
      rw [if_pos rfl, if_pos (t60.mpr s3)]
      exact nb (.inl rfl) s3 k3 v60 h1 k14
    have n60 : ¬ F12_isSign τ1 60 = true := fun e => v60 (k17.symm.trans (t60.mp e))
    rw [if_neg v60, if_neg n60]
    by_cases v62 : gI τ 12 0 0 17 = 62
    · rw [v62] at s3 h1 ⊢
      rw [if_pos rfl, if_pos (t62.mpr s3)]
      exact nb (.inr (.inr rfl)) s3 k3 v62 h1 k14
    have n62 : ¬ F12_isSign τ1 62 = true := fun e => v62 (k17.symm.trans (t62.mp e))
    rw [if_neg v62, if_neg n62]
    by_cases v61 : gI τ 12 0 0 17 = 61
    · rw [v61] at s3 h1 ⊢
      rw [if_pos rfl, if_pos (t61.mpr s3)]
      exact nb (.inr (.inl rfl)) s3 k3 v61 h1 k14
    have n61 : ¬ F12_isSign τ1 61 = true := fun e => v61 (k17.symm.trans (t61.mp e))
    rw [if_neg v61, if_neg n61]
    obtain ⟨σ2, o1, τ2, o2, o3⟩ := h1.wrong
    unfold F12_readTest_p111
    simp only [bd_assoc, bd_bnd, bd_chk, bd_ite, bdS, bd_obind, bd_id, bd_u]
    rw [must_no h1.ok, o1, o2]
    simp only [bdS, Bool.false_eq_true, if_false]
    refine BR.fin ?_
    rw [ix2]
    refine b_if (fun _ => ?_) (fun _ => ?_)
    · exact b_count o3 (b_cell o3 rfl (by omega) (by omega) (fun τ2 hb => b_must0 hb))
    · refine b_if (fun _ => ?_) (fun _ => ?_)
      · exact b_count o3 (b_cell o3 rfl (by omega) (by omega) (fun τ2 hb => b_must0 hb))
      · exact b_count o3 (b_cell o3 rfl (by omega) (by omega) (fun τ2 hb => b_must0 hb))
  · rw [if_neg k3] at s3
    rw [if_neg k3, s3, if_neg (show ¬ (-1 : Int32) = 60 by decide), if_neg (show ¬ (-1 : Int32) = 62 by decide), if_neg (show ¬ (-1 : Int32) = 61 by decide)]
    refine k_m5 h rfl (by omega) (by omega) (fun τ1 h1 _ => ?_)
    have n : ∀ v : Int32, ¬ v = -1 → ¬ F12_isSign τ1 v = true := fun v hv e => hv (((h1.sign hv).mp e).symm.trans s3)
    rw [if_neg (n 60 (by decide)), if_neg (n 62 (by decide)), if_neg (n 61 (by decide))]
    obtain ⟨σ2, o1, τ2, o2, o3⟩ := h1.wrong
    unfold F12_readTest_p111
    simp only [bd_assoc, bd_bnd, bd_chk, bd_ite, bdS, bd_obind, bd_id, bd_u]
    rw [must_no h1.ok, o1, o2]
    simp only [bdS, Bool.false_eq_true, if_false]
    refine BR.fin ?_
    rw [ix2]
    refine b_if (fun _ => ?_) (fun _ => ?_)
    · exact b_count o3 (b_cell o3 rfl (by omega) (by omega) (fun τ2 hb => b_must0 hb))
    · refine b_if (fun _ => ?_) (fun _ => ?_)
      · exact b_count o3 (b_cell o3 rfl (by omega) (by omega) (fun τ2 hb => b_must0 hb))
      · exact b_count o3 (b_cell o3 rfl (by omega) (by omega) (fun τ2 hb => b_must0 hb))
theorem rest_when (h : GS L u r σ0 τ0 s e A AL RI C W B N σ τ) (nm : NmOk t P S σ0 τ0) (ht : t ≠ u) (hp : p < 60) (hw0 : 2400 ≤ w) (hw : w < 2990) (hc : C w = 7) :
    Fin2 u r σ0 τ0 (RG L u r σ0 τ0 s p w A AL RI C W B N (WhenQ S p w)) (cRest σ r t 23 p) (mRest τ w) := by
  have eC : ald 3000 (gI τ 12 0 5) (nI w) = some 7 := by rw [h.cc, ald_nI (by omega) (by omega), hc]
  unfold cRest mRest F5_parseRest F5_parseTest F12_readRest F12_readTest
  rw [eC, Option.bind_some]
  simp (disch := decide) only [if_pos, if_neg, bd_assoc, bd_bnd, bd_chk, bd_ite, bdS, bd_obind, bd_id, bd_u, Bool.false_eq_true, if_false, if_true]
  rw [bnd_eq, m_testWord]
  by_cases k24 : wix τ = nI 24
  · obtain ⟨σ1, τ1, s1, e1, o1, o2, l1, h1, -⟩ := h.nxt (go1 (wix_go (i := 24) (by omega) k24))
    have te : teW (wix τ) = 0 := by rw [k24]; decide
    unfold F12_readTest_p15
    simp only [bd_assoc, bd_bnd, bd_chk, bd_ite, bdS, bd_obind, bd_id, bd_u]
    rw [te, h.skip_yes (x := 24) (i := 24) rfl k24, o1, if_neg (show ¬ (0 : Int32) < 0 by decide), must_yes h.ok, o2]
    simp only [bdS, if_true]
    rw [show nI w + 6 = nI (w + 6) from nI_add w 6]
    refine k_m5 h1 rfl (by omega) (by omega) (fun τ2 h2 _ => ?_)
    have key := k_told (G := RG L u r σ0 τ0 s p w A AL RI C W B N (WhenQ S p w)) h2 nm ht hp false (K := fun s => bd (F5_parseTest_p96 s r (nI p) 999) fun v s => if v = true then F8_takeSemicolon s else some (false, s))
      (K' := fun v s => chk 3000 (nI (w + 1)) <| bnd (sI s 12 0 5 (Int32.toNatClampNeg (nI (w + 1))) v) fun s_17 => bd (F12_readTest_p45 s_17 (nI w) 0) fun _ s => F12_must s (F12_isSign s 59)) (fun i σ3 τ3 s3 e3 hi l3 h3 => by
        refine k_m5 h3 rfl (by omega) (by omega) (fun τ4 h4 _ => ?_)
        exact test_end h4 (by omega) hp hw0 hw rfl (uV3 (.inl rfl)) (fun j hj => by rw [upd_ne (by omega), upd_ne (by omega)]) (by rw [upd_ne (by omega), upd_s]) (.inl ⟨rfl, i, hi, uV_s, upd_s⟩)) (fun v σ3 τ3 hb => b_cell hb rfl (by omega) (by omega) (fun τ4 hb => b_test45 hb))
    simp only [Bool.false_eq_true, if_false] at key
    rw [ix1]
    exact key
  rw [h.skip_no (x := 24) (i := 24) rfl k24]
  simp only [bdS, Bool.false_eq_true, if_false]
  by_cases k25 : wix τ = nI 25
  · obtain ⟨σ1, τ1, s1, e1, o1, o2, l1, h1, -⟩ := h.nxt (go1 (wix_go (i := 25) (by omega) k25))
    have te : teW (wix τ) = 1 := by rw [k25]; decide
    unfold F12_readTest_p15
    simp only [bd_assoc, bd_bnd, bd_chk, bd_ite, bdS, bd_obind, bd_id, bd_u]
    rw [te, h.skip_yes (x := 25) (i := 25) rfl k25, o1, if_neg (show ¬ (1 : Int32) < 0 by decide), must_yes h.ok, o2]
    simp only [bdS, if_true]
    rw [show nI w + 6 = nI (w + 6) from nI_add w 6]
    refine k_m5 h1 rfl (by omega) (by omega) (fun τ2 h2 _ => ?_)
    rw [if_neg (show ¬ (1 : Int32) = 0 by decide)]
    refine k_c5i h2 hp (by omega) (fun σ3 h3 => ?_)
    exact test_end h3 (by omega) hp hw0 hw rfl (uV3 (.inl rfl)) (fun j hj => by rw [upd_ne (by omega)]) upd_s (.inr (.inl ⟨rfl, uV_s⟩))
  rw [h.skip_no (x := 25) (i := 25) rfl k25]
  simp only [bdS, Bool.false_eq_true, if_false]
  by_cases k26 : wix τ = nI 26
  · obtain ⟨σ1, τ1, s1, e1, o1, o2, l1, h1, -⟩ := h.nxt (go1 (wix_go (i := 26) (by omega) k26))
    have te : teW (wix τ) = 2 := by rw [k26]; decide
    unfold F12_readTest_p15
    simp only [bd_assoc, bd_bnd, bd_chk, bd_ite, bdS, bd_obind, bd_id, bd_u]
    rw [te, h.skip_yes (x := 26) (i := 26) rfl k26, o1, if_neg (show ¬ (2 : Int32) < 0 by decide), must_yes h.ok, o2]
    simp only [bdS, if_true]
    rw [show nI w + 6 = nI (w + 6) from nI_add w 6]
    refine k_m5 h1 rfl (by omega) (by omega) (fun τ2 h2 _ => ?_)
    rw [if_neg (show ¬ (2 : Int32) = 0 by decide)]
    refine k_c5i h2 hp (by omega) (fun σ3 h3 => ?_)
    exact test_end h3 (by omega) hp hw0 hw rfl (uV3 (.inl rfl)) (fun j hj => by rw [upd_ne (by omega)]) upd_s (.inr (.inr ⟨rfl, uV_s⟩))
  rw [h.skip_no (x := 26) (i := 26) rfl k26]
  simp only [bdS, Bool.false_eq_true, if_false]
  have te : teW (wix τ) = -1 := by
    unfold teW
    rw [if_neg (show ¬ wix τ = 24 from k24), if_neg (show ¬ wix τ = 25 from k25), if_neg (show ¬ wix τ = 26 from k26)]
  obtain ⟨σ1, o1, τ1, o2, o3⟩ := h.wrong
  unfold F12_readTest_p15
  simp only [bd_assoc, bd_bnd, bd_chk, bd_ite, bdS, bd_obind, bd_id, bd_u]
  rw [te, if_pos (show (-1 : Int32) < 0 by decide), must_no h.ok, o1, o2]
  simp only [bdS, Bool.false_eq_true, if_false]
  rw [show nI w + 6 = nI (w + 6) from nI_add w 6]
  refine BR.fin (b_cell o3 rfl (by omega) (by omega) (fun τ2 hb => ?_))
  rw [if_neg (show ¬ (-1 : Int32) = 0 by decide)]
  exact b_test45 hb
end RRB
