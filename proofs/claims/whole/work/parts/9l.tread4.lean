/-! PURE. tent: shooters. -/
section TRS
variable {σ τ σ1 τ1 σ2 τ2 σ0 τ0 : Mem} {L u r s e k t n : Nat} {A A1 RI : VI} {AL AL1 : VL} {C C1 : Nat → Int32} {W W1 : Nat → Int64} {B : Nat → Bool} {N : Int32} {G : Mem → Mem → Prop}
theorem sho_end {A0 : VI} {AL0 : VL} {C0 : Nat → Int32} {W0 : Nat → Int64} {a b d f : Int32} {nm : Int64} {s0 : Nat} (h : GS L u r σ0 τ0 s e A AL RI C W B N σ τ) (hs0 : s0 ≤ s) (tp : TP A0 AL0 (sh C0) (shW W0) B) (hk : sh C0 6 = nI k) (k6 : k < 6)
    (ra : 1 ≤ a ∧ a ≤ 40) (rb : 0 ≤ b ∧ b ≤ 6) (rd : 0 ≤ d ∧ d ≤ 9) (rf : -9 ≤ f ∧ f ≤ 9)
    (hA : ∀ x j, ¬ (x = 9 ∧ j = k) → ¬ (x = 10 ∧ j = k) → ¬ (x = 11 ∧ j = k) → ¬ (x = 12 ∧ j = k) → A x j = A0 x j) (a1 : A 9 k = a) (a2 : A 10 k = b) (a3 : A 11 k = d) (a4 : A 12 k = f)
    (hl : ∀ x j, ¬ (x = 8 ∧ j = k) → AL x j = AL0 x j) (l1 : AL 8 k = nm) (hw : ∀ j, ¬ j = 8 + k → shW W j = shW W0 j) (w1 : shW W (8 + k) = nm)
    (hc : ∀ j, ¬ j = 53 + k → ¬ j = 59 + k → ¬ j = 65 + k → ¬ j = 71 + k → sh C j = sh C0 j) (c1 : sh C (53 + k) = a) (c2 : sh C (59 + k) = b) (c3 : sh C (65 + k) = d) (c4 : sh C (71 + k) = f) :
    Fin2 u r σ0 τ0 (TG L u r σ0 τ0 s0 RI N) (bnd (sI σ 9 u 0 13 (gI σ 9 u 0 13 + 1)) fun s => F8_takeSemicolon s) (bd (F12_readShooter_p182 τ) fun _ s => F12_must s (F12_isSign s 59)) := by
  have e6 : C 2406 = nI k := (hc 6 (by omega) (by omega) (by omega) (by omega)).trans hk
  have e13 : A 0 13 = nI k := by rw [hA 0 13 (by omega) (by omega) (by omega) (by omega), tp.2.1.2.2.2.2.2.2.1]; exact hk
  unfold F12_readShooter_p182
  simp only [bd_assoc, bd_bnd, bd_chk, bd_ite, bdS, bd_obind, bd_id, bd_u]
  rw [if_pos h.2.1.1, show (2406 : Int32) = nI 2406 from rfl, h.cc, ald_nI (by omega) (by omega), Option.bind_some, e6, nI_1, h.a, e13, nI_1]
  refine k_c9 h (fun σ4 h4 => ?_)
  refine k_m5 h4 rfl (by omega) (by omega) (fun τ5 h5 _ => ?_)
  have tpN := tp.shooter (k := k) (a := a) (b := b) (d := d) (f := f) (nm := nm) (A' := uV A 0 13 (nI (k + 1))) (AL' := AL) (w' := shW W) (c' := sh (upd C 2406 (nI (k + 1)))) hk k6 ra rb rd rf
    (fun x j q1 q2 q3 q4 q5 => by rw [uV_n q5, hA x j q1 q2 q3 q4]) (by rw [uV_n (by omega), a1]) (by rw [uV_n (by omega), a2]) (by rw [uV_n (by omega), a3]) (by rw [uV_n (by omega), a4]) uV_s hl l1 hw w1
    (fun j q1 q2 q3 q4 q5 => by show upd _ _ _ (2400 + j) = _; rw [upd_ne (by omega)]; exact hc j q1 q2 q3 q4)
    (by show upd _ _ _ (2400 + (53 + k)) = _; rw [upd_ne (by omega)]; exact c1) (by show upd _ _ _ (2400 + (59 + k)) = _; rw [upd_ne (by omega)]; exact c2) (by show upd _ _ _ (2400 + (65 + k)) = _; rw [upd_ne (by omega)]; exact c3)
    (by show upd _ _ _ (2400 + (71 + k)) = _; rw [upd_ne (by omega)]; exact c4) (by show upd _ _ _ 2406 = _; rw [upd_s])
  exact k_semi h5 (fun σ9 τ9 s9 e9 l9 h9 => ⟨s9, e9, _, _, _, _, _, by omega, h9, tpN⟩)
theorem b_sho182 (hb : BS u r σ0 τ0 σ τ) : BR u r σ0 τ0 σ (bd (F12_readShooter_p182 τ) fun _ s => F12_must s (F12_isSign s 59)) := by
  unfold F12_readShooter_p182
  rw [if_neg hb.n2, bdS]
  exact b_must0 hb
theorem p_shooter (h : GS L u r σ0 τ0 s e A AL RI C W B N σ τ) (tp : TP A AL (sh C) (shW W) B) (hw : wix τ = nI 12) :
    Fin2 u r σ0 τ0 (TG L u r σ0 τ0 s RI N) (F9_parseShooter σ u) (bd (F12_readShooter τ) fun _ s => F12_must s (F12_isSign s 59)) := by
  have g := go1 (wix_go (i := 12) (by omega) hw)
  have n5 := ok_n5 tp.1
  have n6 := ok_n6 tp.1
  obtain ⟨P, hP, eP⟩ : ∃ k, k ≤ 8 ∧ sh C 5 = nI k := ⟨nat (sh C 5), n5, ok_i5 tp.1⟩
  obtain ⟨k, hk, ek⟩ : ∃ k, k ≤ 6 ∧ sh C 6 = nI k := ⟨nat (sh C 6), n6, ok_i6 tp.1⟩
  have nP : nat (sh C 5) = P := by rw [eP]; exact nat_nI (by omega)
  have nk : nat (sh C 6) = k := by rw [ek]; exact nat_nI (by omega)
  have eA' : A 0 7 = nI P := by rw [tp.2.1.2.2.2.2.2.1, eP]
  have eA : A 0 13 = nI k := by rw [tp.2.1.2.2.2.2.2.2.1, ek]
  unfold F9_parseShooter F9_parseLean F12_readShooter F12_readShooter_p25 F12_readNew
  rw [h.cc, show (2406 : Int32) = nI 2406 from rfl, ald_nI (by omega) (by omega), Option.bind_some, show C 2406 = nI k from ek, h.a, eA]
  simp only [bd_assoc, bd_bnd, bd_chk, bd_ite, bdS, bd_obind, bd_id, bd_u, eq_self, if_true, Bool.false_eq_true, if_false]
  refine k_many (k := k) (m := 6) h g hk (by omega) (fun σ τ hb => b_le hb (b_must0 hb)) (fun k6 => ?_)
  rw [if_pos h.ok, show (2453 : Int32) + nI k = nI (2453 + k) from nI_add 2453 k, show (2459 : Int32) + nI k = nI (2459 + k) from nI_add 2459 k, show (2465 : Int32) + nI k = nI (2465 + k) from nI_add 2465 k, show (2471 : Int32) + nI k = nI (2471 + k) from nI_add 2471 k, show (8 : Int32) + nI k = nI (8 + k) from nI_add 8 k]
  obtain ⟨σ1, τ1, s1, e1, o1, o2, l1, h1, -⟩ := h.nxt g
  rw [o1, o2, bdS, bdS, bnd_eq, show gI σ1 9 u 0 13 = nI k by rw [h1.a]; exact eA]
  have bd3 : ∀ σ τ, BS u r σ0 τ0 σ τ → BR u r σ0 τ0 σ (bd (F12_readShooter_p182 τ) fun _ s => F12_must s (F12_isSign s 59)) := fun σ τ hb => b_sho182 hb
  refine k_c9Li h1 (by omega) (by omega) (fun σ2 e2' h2 => ?_)
  refine k_newname h2 (x := 8 + k) (P := P) (S := k) (by omega) hP hk eA' eA eP ek (fun i hi => ?_) (fun i hi => ?_) (fun σ3 τ3 s3 e3 nm l3 h3 => ?_) (fun σ3 τ3 hb => ?_)
  · rw [uVL_n (by omega)]; exact (tp.2.1.2.2.2.2.2.2.2.2.1 i (by omega)).1
  · rw [uVL_n (by omega)]; exact ((tp.2.1.2.2.2.2.2.2.2.2.2 i (by omega)).1).trans (by show W (56 + (8 + i)) = W (64 + i); rw [show 56 + (8 + i) = 64 + i by omega])
  rotate_left
  · refine b_must hb ?_
    refine b_count hb ?_
    refine b_cell hb rfl (by omega) (by omega) (fun τ4 hb => ?_)
    refine b_must hb ?_
    refine b_count hb ?_
    refine b_cell hb rfl (by omega) (by omega) (fun τ5 hb => ?_)
    exact b_eq hb (b_sho182 hb)
  refine k_word h3 13 (by omega) rfl (w_puff) (fun σ4 τ4 s4 e4 l4 _ h4 => ?_) (fun σ4 τ4 hb => ?_)
  rotate_left
  · refine b_count hb ?_
    refine b_cell hb rfl (by omega) (by omega) (fun τ4 hb => ?_)
    refine b_must hb ?_
    refine b_count hb ?_
    refine b_cell hb rfl (by omega) (by omega) (fun τ5 hb => ?_)
    exact b_eq hb (b_sho182 hb)
  refine k_num h4 (fun a σ5 τ5 s5 e5 a1 a2 l5 q5 h5 => ?_) (fun σ5 τ5 hb => ?_)
  rotate_left
  · refine b_cell hb rfl (by omega) (by omega) (fun τ4 hb => ?_)
    refine b_must hb ?_
    refine b_count hb ?_
    refine b_cell hb rfl (by omega) (by omega) (fun τ5 hb => ?_)
    exact b_eq hb (b_sho182 hb)
  rw [q5]
  refine k_c9i h5 (by omega) (by omega) (fun σ6 h6 _ => ?_)
  refine k_m5 h6 rfl (by omega) (by omega) (fun τ6 h7 _ => ?_)
  refine k_word h7 14 (by omega) rfl (w_shake) (fun σ8 τ8 s8 e8 l8 _ h8 => ?_) (fun σ8 τ8 hb => ?_)
  rotate_left
  · refine b_count hb ?_
    refine b_cell hb rfl (by omega) (by omega) (fun τ5 hb => ?_)
    exact b_eq hb (b_sho182 hb)
  refine k_num h8 (fun b σ9 τ9 s9 e9 b1 b2 l9 q9 h9 => ?_) (fun σ9 τ9 hb => ?_)
  rotate_left
  · refine b_cell hb rfl (by omega) (by omega) (fun τ5 hb => ?_)
    exact b_eq hb (b_sho182 hb)
  rw [q9]
  refine k_c9i h9 (by omega) (by omega) (fun σ10 h10 _ => ?_)
  refine k_c9i h10 (by omega) (by omega) (fun σ11 h11 _ => ?_)
  refine k_c9i h11 (by omega) (by omega) (fun σ11' h11' _ => ?_)
  refine k_m5 h11' rfl (by omega) (by omega) (fun τ12 h12 _ => ?_)
  rw [if_pos h12.2.1.1]
  have nme : gL σ2 8 0 0 6 = gL τ1 12 0 0 19 := nm
  have l3' : gL σ1 8 0 0 6 = gL τ1 12 0 0 19 := by rw [← nme, e2', rL_a (by decide)]
  have z65 : sh (upd (upd C (2453 + k) a) (2459 + k) b) (65 + k) = 0 := by
    show upd _ _ _ (2400 + (65 + k)) = 0
    rw [upd_ne (by omega), upd_ne (by omega)]; exact (tp.2.2.2.1 k (by omega) k6).1
  have z71 : sh (upd (upd C (2453 + k) a) (2459 + k) b) (71 + k) = 0 := by
    show upd _ _ _ (2400 + (71 + k)) = 0
    rw [upd_ne (by omega), upd_ne (by omega)]; exact (tp.2.2.2.1 k (by omega) k6).2
  have hl : ∀ x j, ¬ (x = 8 ∧ j = k) → uVL AL 8 k (gL σ1 8 0 0 6) x j = AL x j := fun x j q => uVL_n q
  have hw' : ∀ j, ¬ j = 8 + k → shW (vp_updL W (56 + (8 + k)) (gL τ1 12 0 0 19)) j = shW W j := fun j q => updL_ne (by omega)
  have w1' : shW (vp_updL W (56 + (8 + k)) (gL τ1 12 0 0 19)) (8 + k) = gL σ1 8 0 0 6 := by rw [l3']; exact updL_s
  by_cases kc : wix τ12 = nI 15
  · rw [h12.skip_yes (x := 15) (i := 15) rfl kc, if_pos ((w_lean (τ := τ12)).mpr kc)]
    obtain ⟨σ13, τ13, s13, e13, o13, o13', l13, h13, -⟩ := h12.nxt (go1 (wix_go (i := 15) (by omega) kc))
    rw [o13, o13']
    simp only [bdS, if_true]
    refine k_num h13 (fun d σ14 τ14 s14 e14 d1 d2 l14 q14 h14 => ?_) (fun σ14 τ14 hb => ?_)
    rotate_left
    · refine b_cell hb rfl (by omega) (by omega) (fun τ5 hb => ?_)
      refine b_count hb ?_
      refine b_cell hb rfl (by omega) (by omega) (fun τ5 hb => ?_)
      exact b_eq hb (b_sho182 hb)
    rw [q14]
    refine k_c9i h14 (by omega) (by omega) (fun σ15 h15 _ => ?_)
    refine k_m5 h15 rfl (by omega) (by omega) (fun τ16 h16 _ => ?_)
    refine k_num h16 (fun f σ17 τ17 s17 e17 f1 f2 l17 q17 h17 => ?_) (fun σ17 τ17 hb => ?_)
    rotate_left
    · refine b_cell hb rfl (by omega) (by omega) (fun τ5 hb => ?_)
      exact b_eq hb (b_sho182 hb)
    rw [bnd_eq, q17]
    refine k_m5 h17 rfl (by omega) (by omega) (fun τ18 h18 w18 => ?_)
    obtain ⟨r1, r2⟩ := neg9 f1 f2
    have eC : ald 3000 (gI τ18 12 0 5) (nI (2471 + k)) = some f := by rw [h18.cc, ald_nI (by omega) (by omega), upd_s]
    rw [if_pos h18.2.1.1]
    by_cases kl : wix τ18 = nI 16
    · rw [h18.skip_yes (x := 16) (i := 16) rfl kl, if_pos ((w_low (τ := τ18)).mpr kl), eC, Option.bind_some]
      refine k_m5 h18 rfl (by omega) (by omega) (fun τ19 h19 w19 => ?_)
      obtain ⟨σ20, τ20, s20, e20, o20, o20', l20, h20, -⟩ := h19.nxt (go1 (wix_go (i := 16) (by omega) (w19.trans kl)))
      rw [o20, o20']
      simp only [bdS, if_true]
      refine k_c9i h20 (by omega) (by omega) (fun σ21 h21 _ => ?_)
      exact sho_end h21 (by omega) tp ek k6 ⟨a1, a2⟩ ⟨b1, b2⟩ ⟨d1, d2⟩ r2
        (fun x j q1 q2 q3 q4 => by rw [uV_n q4, uV_n q3, uV_n q4, uV_n q3, uV_n q2, uV_n q1]) (by rw [uV_n (by omega), uV_n (by omega), uV_n (by omega), uV_n (by omega), uV_n (by omega), uV_s]) (by rw [uV_n (by omega), uV_n (by omega), uV_n (by omega), uV_n (by omega), uV_s]) (by rw [uV_n (by omega), uV_s]) uV_s hl uVL_s hw' w1'
        (fun j q1 q2 q3 q4 => by show upd _ _ _ (2400 + j) = _; rw [upd_ne (by omega), upd_ne (by omega), upd_ne (by omega), upd_ne (by omega), upd_ne (by omega)]; rfl)
        (by show upd _ _ _ (2400 + (53 + k)) = _; rw [upd_ne (by omega), upd_ne (by omega), upd_ne (by omega), upd_ne (by omega), show 2400 + (53 + k) = 2453 + k by omega, upd_s]) (by show upd _ _ _ (2400 + (59 + k)) = _; rw [upd_ne (by omega), upd_ne (by omega), upd_ne (by omega), show 2400 + (59 + k) = 2459 + k by omega, upd_s]) (by show upd _ _ _ (2400 + (65 + k)) = _; rw [upd_ne (by omega), upd_ne (by omega), show 2400 + (65 + k) = 2465 + k by omega, upd_s]) (by show upd _ _ _ (2400 + (71 + k)) = _; rw [show 2400 + (71 + k) = 2471 + k by omega, upd_s])
    · rw [h18.skip_no (x := 16) (i := 16) rfl kl, if_neg (fun e => kl ((w_low (τ := τ18)).mp e))]
      simp only [bdS, Bool.false_eq_true, if_false]
      refine k_c9i h18 (by omega) (by omega) (fun σ21 h21 _ => ?_)
      exact sho_end h21 (by omega) tp ek k6 ⟨a1, a2⟩ ⟨b1, b2⟩ ⟨d1, d2⟩ r1
        (fun x j q1 q2 q3 q4 => by rw [uV_n q4, uV_n q3, uV_n q4, uV_n q3, uV_n q2, uV_n q1]) (by rw [uV_n (by omega), uV_n (by omega), uV_n (by omega), uV_n (by omega), uV_n (by omega), uV_s]) (by rw [uV_n (by omega), uV_n (by omega), uV_n (by omega), uV_n (by omega), uV_s]) (by rw [uV_n (by omega), uV_s]) uV_s hl uVL_s hw' w1'
        (fun j q1 q2 q3 q4 => by show upd _ _ _ (2400 + j) = _; rw [upd_ne (by omega), upd_ne (by omega), upd_ne (by omega), upd_ne (by omega)]; rfl)
        (by show upd _ _ _ (2400 + (53 + k)) = _; rw [upd_ne (by omega), upd_ne (by omega), upd_ne (by omega), show 2400 + (53 + k) = 2453 + k by omega, upd_s]) (by show upd _ _ _ (2400 + (59 + k)) = _; rw [upd_ne (by omega), upd_ne (by omega), show 2400 + (59 + k) = 2459 + k by omega, upd_s]) (by show upd _ _ _ (2400 + (65 + k)) = _; rw [upd_ne (by omega), show 2400 + (65 + k) = 2465 + k by omega, upd_s]) (by show upd _ _ _ (2400 + (71 + k)) = _; rw [show 2400 + (71 + k) = 2471 + k by omega, upd_s])
  · rw [h12.skip_no (x := 15) (i := 15) rfl kc, if_neg (fun e => kc ((w_lean (τ := τ12)).mp e))]
    simp only [bdS, Bool.false_eq_true, if_false]
    exact sho_end h12 (by omega) tp ek k6 ⟨a1, a2⟩ ⟨b1, b2⟩ ⟨by decide, by decide⟩ ⟨by decide, by decide⟩
      (fun x j q1 q2 q3 q4 => by rw [uV_n q4, uV_n q3, uV_n q2, uV_n q1]) (by rw [uV_n (by omega), uV_n (by omega), uV_n (by omega), uV_s]) (by rw [uV_n (by omega), uV_n (by omega), uV_s]) (by rw [uV_n (by omega), uV_s]) uV_s hl uVL_s hw' w1'
      (fun j q1 q2 q3 q4 => by show upd _ _ _ (2400 + j) = _; rw [upd_ne (by omega), upd_ne (by omega)]; rfl)
      (by show upd _ _ _ (2400 + (53 + k)) = _; rw [upd_ne (by omega), show 2400 + (53 + k) = 2453 + k by omega, upd_s]) (by show upd _ _ _ (2400 + (59 + k)) = _; rw [show 2400 + (59 + k) = 2459 + k by omega, upd_s]) z65 z71
end TRS
