/-! PURE. tent: names; peas, shooters. -/
section TRN
variable {σ τ σ1 τ1 σ2 τ2 σ0 τ0 : Mem} {L u r s e k t n : Nat} {A A1 RI : VI} {AL AL1 : VL} {C C1 : Nat → Int32} {W W1 : Nat → Int64} {B : Nat → Bool} {N : Int32} {G : Mem → Mem → Prop}
theorem find_pea {b : Nat} {nm : Int64} (hb : b ≤ 4) (hn : n ≤ 8) (hc : gI σ 9 t 0 7 = nI n) (hm : gI τ 12 0 5 (600 * b + 5) = nI n) (hw : ∀ i, i < n → gL σ 9 t 3 i = gL τ 12 0 7 (14 * b + i)) (hnm : nm = gL τ 12 0 0 19) :
    ∀ k f f' i, i + k = n → k < f → k < f' → ∃ v, F9_findPea_L2 t nm f σ (nI i) = some v ∧ F12_peaNamed_L2 (nI b) f' τ (nI i) = some v ∧ (v = -1 ∨ ∃ i, i < n ∧ v = nI i) := by
  intro k
  induction k with
  | zero =>
    intro f f' i hi hf hf'
    obtain ⟨f, rfl⟩ : ∃ m, f = m + 1 := ⟨f - 1, by omega⟩
    obtain ⟨f', rfl⟩ : ∃ m, f' = m + 1 := ⟨f' - 1, by omega⟩
    obtain rfl : i = n := by omega
    simp only [F9_findPea_L2.eq_2, F12_peaNamed_L2.eq_2]
    rw [hc, if_pos (Int32.le_refl _), show (600 : Int32) * nI b + 5 = nI (600 * b + 5) by rw [show (600 : Int32) = nI 600 from rfl, pk_mul]; exact nI_add _ 5, ald_nI (by omega) (by omega), Option.bind_some, hm, if_pos (Int32.le_refl _)]
    exact ⟨_, rfl, rfl, .inl rfl⟩
  | succ k ih =>
    intro f f' i hi hf hf'
    obtain ⟨f, rfl⟩ : ∃ m, f = m + 1 := ⟨f - 1, by omega⟩
    obtain ⟨f', rfl⟩ : ∃ m, f' = m + 1 := ⟨f' - 1, by omega⟩
    simp only [F9_findPea_L2.eq_2, F12_peaNamed_L2.eq_2]
    rw [hc, if_neg (nI_ge (by omega) (by omega)), show (600 : Int32) * nI b + 5 = nI (600 * b + 5) by rw [show (600 : Int32) = nI 600 from rfl, pk_mul]; exact nI_add _ 5, ald_nI (by omega) (by omega), Option.bind_some, ald_nI (by omega) (by omega), Option.bind_some, hm, if_neg (nI_ge (by omega) (by omega)),
      show (14 : Int32) * nI b + nI i = nI (14 * b + i) by rw [show (14 : Int32) = nI 14 from rfl, pk_mul]; exact nI_add _ i, ald_nI (by omega) (by omega), Option.bind_some, hw i (by omega), hnm, nI_1]
    by_cases c : gL τ 12 0 7 (14 * b + i) = gL τ 12 0 0 19
    · rw [if_pos c, if_pos c]; exact ⟨_, rfl, rfl, .inr ⟨i, by omega, rfl⟩⟩
    · rw [if_neg c, if_neg c, ← hnm]; exact ih f f' (i + 1) (by omega) (by omega) (by omega)
theorem find_sho {b : Nat} {nm : Int64} (hb : b ≤ 4) (hn : n ≤ 6) (hc : gI σ 9 t 0 13 = nI n) (hm : gI τ 12 0 5 (600 * b + 6) = nI n) (hw : ∀ i, i < n → gL σ 9 t 8 i = gL τ 12 0 7 (14 * b + 8 + i)) (hnm : nm = gL τ 12 0 0 19) :
    ∀ k f f' i, i + k = n → k < f → k < f' → ∃ v, F9_findShooter_L2 t nm f σ (nI i) = some v ∧ F12_shooterNamed_L2 (nI b) f' τ (nI i) = some v ∧ (v = -1 ∨ ∃ i, i < n ∧ v = nI i) := by
  intro k
  induction k with
  | zero =>
    intro f f' i hi hf hf'
    obtain ⟨f, rfl⟩ : ∃ m, f = m + 1 := ⟨f - 1, by omega⟩
    obtain ⟨f', rfl⟩ : ∃ m, f' = m + 1 := ⟨f' - 1, by omega⟩
    obtain rfl : i = n := by omega
    simp only [F9_findShooter_L2.eq_2, F12_shooterNamed_L2.eq_2]
    rw [hc, if_pos (Int32.le_refl _), show (600 : Int32) * nI b + 6 = nI (600 * b + 6) by rw [show (600 : Int32) = nI 600 from rfl, pk_mul]; exact nI_add _ 6, ald_nI (by omega) (by omega), Option.bind_some, hm, if_pos (Int32.le_refl _)]
    exact ⟨_, rfl, rfl, .inl rfl⟩
  | succ k ih =>
    intro f f' i hi hf hf'
    obtain ⟨f, rfl⟩ : ∃ m, f = m + 1 := ⟨f - 1, by omega⟩
    obtain ⟨f', rfl⟩ : ∃ m, f' = m + 1 := ⟨f' - 1, by omega⟩
    simp only [F9_findShooter_L2.eq_2, F12_shooterNamed_L2.eq_2]
    rw [hc, if_neg (nI_ge (by omega) (by omega)), show (600 : Int32) * nI b + 6 = nI (600 * b + 6) by rw [show (600 : Int32) = nI 600 from rfl, pk_mul]; exact nI_add _ 6, ald_nI (by omega) (by omega), Option.bind_some, ald_nI (by omega) (by omega), Option.bind_some, hm, if_neg (nI_ge (by omega) (by omega)),
      show (14 : Int32) * nI b + 8 + nI i = nI (14 * b + 8 + i) by rw [show (14 : Int32) = nI 14 from rfl, pk_mul, show (8 : Int32) = nI 8 from rfl, nI_add, nI_add], ald_nI (by omega) (by omega), Option.bind_some, hw i (by omega), hnm, nI_1]
    by_cases c : gL τ 12 0 7 (14 * b + 8 + i) = gL τ 12 0 0 19
    · rw [if_pos c, if_pos c]; exact ⟨_, rfl, rfl, .inr ⟨i, by omega, rfl⟩⟩
    · rw [if_neg c, if_neg c, ← hnm]; exact ih f f' (i + 1) (by omega) (by omega) (by omega)
theorem nI_nn {i : Nat} (h : i < 1000) : (0 : Int32) ≤ nI i ∧ ¬ nI i < 0 ∧ ¬ nI i = -1 := ⟨nI_pos' (by omega), nI_pos (by omega), fun e => m1_nI h e.symm⟩
/-- a new name -/
theorem k_newname (h : GS L u r σ0 τ0 s e A AL RI C W B N σ τ) {x P S : Nat} (hx : x < 14) (p8 : P ≤ 8) (s6 : S ≤ 6) (aP : A 0 7 = nI P) (aS : A 0 13 = nI S) (cP : C 2405 = nI P) (cS' : C 2406 = nI S)
    (wP : ∀ i, i < P → AL 3 i = W (56 + i)) (wS : ∀ i, i < S → AL 8 i = W (64 + i)) {K : Mem → Option (Bool × Mem)} {K' : Unit → Mem → Option (Unit × Mem)}
    (ok : ∀ σ' τ' s' e', gL σ 8 0 0 6 = gL τ 12 0 0 19 → s < s' → GS L u r σ0 τ0 s' e' A AL RI C (vp_updL W (56 + x) (gL τ 12 0 0 19)) B N σ' τ' → Fin2 u r σ0 τ0 G (K σ') (K' () τ'))
    (no : ∀ σ' τ', BS u r σ0 τ0 σ' τ' → BR u r σ0 τ0 σ' (K' () τ')) :
    Fin2 u r σ0 τ0 G (bd (F9_takeNewName σ u) fun v s => if v = true then K s else some (false, s))
      (if F12_isName τ = true then (bd (F12_readNew_p15 τ (nI x)) K') else (bd (F12_wrong τ) fun _ s => bd (F12_readNew_p15 s (nI x)) K')) := by
  obtain ⟨n1, n2⟩ := h.name
  have bad15 : ∀ σ' τ', BS u r σ0 τ0 σ' τ' → BR u r σ0 τ0 σ' (bd (F12_readNew_p15 τ' (nI x)) K') := by
    intro σ' τ' hb
    unfold F12_readNew_p15 F12_readNew_p47
    rw [if_neg hb.n2, if_neg hb.n1, bdS]
    exact no σ' τ' hb
  have bad47 : ∀ σ' τ', BS u r σ0 τ0 σ' τ' → BR u r σ0 τ0 σ' (bd (F12_readNew_p47 τ' (nI x)) K') := by
    intro σ' τ' hb
    unfold F12_readNew_p47
    rw [if_neg hb.n1, bdS]
    exact no σ' τ' hb
  unfold F9_takeNewName
  rw [n1]
  by_cases hn : F12_isName τ = true
  · obtain ⟨n3, n4⟩ := n2 hn
    rw [if_pos hn, if_pos hn]
    have eC := h.cc
    have eW : gL τ 12 0 7 = W := h.2.2.2.2.1
    obtain ⟨v, f1, f2, f3⟩ := find_pea (σ := σ) (τ := τ) (t := u) (b := 4) (nm := gL σ 8 0 0 6) (by omega) p8 ((h.a 0 7).trans aP) (by rw [eC]; exact cP) (fun i hi => by rw [h.2.2.1.2.1, eW]; exact wP i hi) n4 P fuelK fuelK 0 (by omega) (fuelK_lt (by omega)) (fuelK_lt (by omega))
    obtain ⟨w, q1, q2, q3⟩ := find_sho (σ := σ) (τ := τ) (t := u) (b := 4) (nm := gL σ 8 0 0 6) (by omega) s6 ((h.a 0 13).trans aS) (by rw [eC]; exact cS') (fun i hi => by rw [h.2.2.1.2.1, eW]; exact wS i hi) n4 S fuelK fuelK 0 (by omega) (fuelK_lt (by omega)) (fuelK_lt (by omega))
    have f1' : F9_findPea σ u (gL σ 8 0 0 6) = some v := f1
    have f2' : F12_peaNamed τ 4 = some v := f2
    have q1' : F9_findShooter σ u (gL σ 8 0 0 6) = some w := q1
    have q2' : F12_shooterNamed τ 4 = some w := q2
    unfold F12_readNew_p15
    rw [if_pos h.2.1.1, f1', f2', q1', q2', Option.bind_some, Option.bind_some, Option.bind_some, Option.bind_some]
    obtain ⟨σ', o1, τ', o2, o3⟩ := h.bad (k := 3) (by decide) (by rw [n3]; decide)
    rcases f3 with rfl | ⟨i, hi, rfl⟩
    · rw [if_pos rfl, if_neg (show ¬ (0 : Int32) ≤ -1 by decide)]
      rcases q3 with rfl | ⟨i, hi, rfl⟩
      · rw [if_pos rfl, if_pos (show (-1 : Int32) < 0 by decide)]
        unfold F12_readNew_p47
        rw [if_pos h.ok, show (56 : Int32) + nI x = nI (56 + x) from nI_add 56 x, chk_nI (by omega) (by omega), bnd_eq, cl_nI (by omega)]
        obtain ⟨σ2, τ2, s2, e2, g1, g2, g3, g4, -⟩ := (h.m7 (j := 56 + x) (v := gL τ 12 0 0 19) (by omega)).nxt (go1 (by rw [gI_sL]; exact n3))
        rw [g1, g2, bdS, bdS, bdS, bdS, if_pos rfl]
        exact ok σ2 τ2 s2 e2 n4 g3 g4
      · rw [if_neg (nI_nn (show i < 1000 by omega)).2.2, if_neg (nI_nn (show i < 1000 by omega)).2.1, o1, o2, bdS, bdS, bdS, if_neg (by decide)]
        exact (bad47 _ _ o3).fin
    · rw [if_neg (nI_nn (show i < 1000 by omega)).2.2, if_pos (nI_nn (show i < 1000 by omega)).1, o1, o2, bdS, bdS, bdS, if_neg (by decide)]
      exact (bad47 _ _ o3).fin
  · obtain ⟨σ', o1, τ', o2, o3⟩ := h.wrong
    rw [if_neg hn, if_neg hn, o1, o2, bdS, bdS, bdS, if_neg (by decide)]
    exact (bad15 _ _ o3).fin
/-- a pea's end: wet or not -/
theorem pea_end {A0 : VI} {AL0 : VL} {C0 : Nat → Int32} {W0 : Nat → Int64} {a b d : Int32} {nm : Int64} {s0 : Nat} (h : GS L u r σ0 τ0 s e A AL RI C W B N σ τ) (hs0 : s0 ≤ s) (tp : TP A0 AL0 (sh C0) (shW W0) B) (hk : sh C0 5 = nI k) (k8 : k < 8)
    (ra : 1 ≤ a ∧ a ≤ 12) (rb : 1 ≤ b ∧ b ≤ 20) (rd : 0 ≤ d ∧ d ≤ 4)
    (hA : ∀ x j, ¬ (x = 4 ∧ j = k) → ¬ (x = 5 ∧ j = k) → ¬ (x = 6 ∧ j = k) → A x j = A0 x j) (a1 : A 4 k = a) (a2 : A 5 k = b) (a3 : A 6 k = d)
    (hl : ∀ x j, ¬ (x = 3 ∧ j = k) → AL x j = AL0 x j) (l1 : AL 3 k = nm) (hw : ∀ j, ¬ j = k → shW W j = shW W0 j) (w1 : shW W k = nm)
    (hc : ∀ j, ¬ j = 21 + k → ¬ j = 29 + k → ¬ j = 37 + k → sh C j = sh C0 j) (c1 : sh C (21 + k) = a) (c2 : sh C (29 + k) = b) (c3 : sh C (37 + k) = d) :
    Fin2 u r σ0 τ0 (TG L u r σ0 τ0 s0 RI N) (F9_parsePea_p142 σ u (nI k)) (bd (F12_readPea_p122 τ (nI k)) fun _ s => F12_must s (F12_isSign s 59)) := by
  have nk : nat (sh C0 5) = k := by rw [hk]; exact nat_nI (by omega)
  have e5 : C 2405 = nI k := (hc 5 (by omega) (by omega) (by omega)).trans hk
  have e7 : A 0 7 = nI k := by rw [hA 0 7 (by omega) (by omega) (by omega), tp.2.1.2.2.2.2.2.1]; exact hk
  have z45 : sh C (45 + k) = 0 := by rw [hc _ (by omega) (by omega) (by omega)]; exact (tp.2.2.1 k (by omega) k8).2
  unfold F9_parsePea_p142 F12_readPea_p122 F12_readPea_p151
  simp only [bd_assoc, bd_bnd, bd_chk, bd_ite, bdS, bd_obind, bd_id, bd_u]
  rw [if_pos h.2.1.1, show (2445 : Int32) + nI k = nI (2445 + k) from nI_add 2445 k, show (2405 : Int32) = nI 2405 from rfl]
  by_cases kw : wix τ = nI 11
  · rw [h.skip_yes (x := 11) (i := 11) rfl kw, if_pos ((w_wet (τ := τ)).mpr kw)]
    refine k_m5 h rfl (by omega) (by omega) (fun τ1 h1 w1' => ?_)
    obtain ⟨σ2, τ2, s2, e2, o1, o2, o3, h2, -⟩ := h1.nxt (go1 (wix_go (i := 11) (by omega) (w1'.trans kw)))
    rw [o1, o2]
    simp only [bdS, if_true]
    refine k_c9i h2 (by omega) (by omega) (fun σ3 h3 _ => ?_)
    rw [if_pos h3.2.1.1, h3.cc, ald_nI (by omega) (by omega), Option.bind_some, upd_ne (by omega), e5, nI_1, show gI σ3 9 u 0 7 = nI k by rw [h3.a, uV_n (by omega)]; exact e7, nI_1]
    refine k_c9 h3 (fun σ4 h4 => ?_)
    refine k_m5 h4 rfl (by omega) (by omega) (fun τ5 h5 _ => ?_)
    have tpN := tp.pea (k := k) (a := a) (b := b) (d := d) (f := 1) (nm := nm) (A' := uV (uV A 7 k 1) 0 7 (nI (k + 1))) (AL' := AL) (w' := shW W) (c' := sh (upd (upd C (2445 + k) 1) 2405 (nI (k + 1)))) hk k8 ra rb rd (.inr rfl)
      (fun x j q1 q2 q3 q4 q5 => by rw [uV_n q5, uV_n q4, hA x j q1 q2 q3]) (by rw [uV_n (by omega), uV_n (by omega), a1]) (by rw [uV_n (by omega), uV_n (by omega), a2]) (by rw [uV_n (by omega), uV_n (by omega), a3]) (by rw [uV_n (by omega), uV_s]) uV_s hl l1 hw w1
      (fun j q1 q2 q3 q4 q5 => by show upd _ _ _ (2400 + j) = _; rw [upd_ne (by omega), upd_ne (by omega)]; exact hc j q1 q2 q3)
      (by show upd _ _ _ (2400 + (21 + k)) = _; rw [upd_ne (by omega), upd_ne (by omega)]; exact c1) (by show upd _ _ _ (2400 + (29 + k)) = _; rw [upd_ne (by omega), upd_ne (by omega)]; exact c2) (by show upd _ _ _ (2400 + (37 + k)) = _; rw [upd_ne (by omega), upd_ne (by omega)]; exact c3)
      (by show upd _ _ _ (2400 + (45 + k)) = _; rw [upd_ne (by omega), show 2400 + (45 + k) = 2445 + k by omega, upd_s]) (by show upd _ _ _ 2405 = _; rw [upd_s])
    exact k_semi h5 (fun σ9 τ9 s9 e9 l9 h9 => ⟨s9, e9, _, _, _, _, _, by omega, h9, tpN⟩)
  · rw [h.skip_no (x := 11) (i := 11) rfl kw, if_neg (fun e => kw ((w_wet (τ := τ)).mp e))]
    simp only [bdS, Bool.false_eq_true, if_false]
    refine k_c9i h (by omega) (by omega) (fun σ3 h3 _ => ?_)
    rw [if_pos h3.2.1.1, h3.cc, ald_nI (by omega) (by omega), Option.bind_some, e5, nI_1, show gI σ3 9 u 0 7 = nI k by rw [h3.a, uV_n (by omega)]; exact e7, nI_1]
    refine k_c9 h3 (fun σ4 h4 => ?_)
    refine k_m5 h4 rfl (by omega) (by omega) (fun τ5 h5 _ => ?_)
    have tpN := tp.pea (k := k) (a := a) (b := b) (d := d) (f := 0) (nm := nm) (A' := uV (uV A 7 k 0) 0 7 (nI (k + 1))) (AL' := AL) (w' := shW W) (c' := sh (upd C 2405 (nI (k + 1)))) hk k8 ra rb rd (.inl rfl)
      (fun x j q1 q2 q3 q4 q5 => by rw [uV_n q5, uV_n q4, hA x j q1 q2 q3]) (by rw [uV_n (by omega), uV_n (by omega), a1]) (by rw [uV_n (by omega), uV_n (by omega), a2]) (by rw [uV_n (by omega), uV_n (by omega), a3]) (by rw [uV_n (by omega), uV_s]) uV_s hl l1 hw w1
      (fun j q1 q2 q3 q4 q5 => by show upd _ _ _ (2400 + j) = _; rw [upd_ne (by omega)]; exact hc j q1 q2 q3)
      (by show upd _ _ _ (2400 + (21 + k)) = _; rw [upd_ne (by omega)]; exact c1) (by show upd _ _ _ (2400 + (29 + k)) = _; rw [upd_ne (by omega)]; exact c2) (by show upd _ _ _ (2400 + (37 + k)) = _; rw [upd_ne (by omega)]; exact c3)
      (by show upd _ _ _ (2400 + (45 + k)) = _; rw [upd_ne (by omega)]; exact z45) (by show upd _ _ _ 2405 = _; rw [upd_s])
    exact k_semi h5 (fun σ9 τ9 s9 e9 l9 h9 => ⟨s9, e9, _, _, _, _, _, by omega, h9, tpN⟩)
theorem b_pea122 (hb : BS u r σ0 τ0 σ τ) {x : Int32} : BR u r σ0 τ0 σ (bd (F12_readPea_p122 τ x) fun _ s => F12_must s (F12_isSign s 59)) := by
  unfold F12_readPea_p122 F12_readPea_p151
  rw [if_neg hb.n2, if_neg hb.n2, bdS]
  exact b_must0 hb
theorem p_pea (h : GS L u r σ0 τ0 s e A AL RI C W B N σ τ) (tp : TP A AL (sh C) (shW W) B) (hw : wix τ = nI 7) :
    Fin2 u r σ0 τ0 (TG L u r σ0 τ0 s RI N) (F9_parsePea σ u) (bd (F12_readPea τ) fun _ s => F12_must s (F12_isSign s 59)) := by
  have g := go1 (wix_go (i := 7) (by omega) hw)
  have n5 := ok_n5 tp.1
  have n6 := ok_n6 tp.1
  obtain ⟨k, hk, ek⟩ : ∃ k, k ≤ 8 ∧ sh C 5 = nI k := ⟨nat (sh C 5), n5, ok_i5 tp.1⟩
  obtain ⟨S, hS, eS⟩ : ∃ k, k ≤ 6 ∧ sh C 6 = nI k := ⟨nat (sh C 6), n6, ok_i6 tp.1⟩
  have nk : nat (sh C 5) = k := by rw [ek]; exact nat_nI (by omega)
  have nS : nat (sh C 6) = S := by rw [eS]; exact nat_nI (by omega)
  have eA : A 0 7 = nI k := by rw [tp.2.1.2.2.2.2.2.1, ek]
  have eA' : A 0 13 = nI S := by rw [tp.2.1.2.2.2.2.2.2.1, eS]
  unfold F9_parsePea F12_readPea F12_readPea_p25 F12_readNew
  rw [h.cc, show (2405 : Int32) = nI 2405 from rfl, ald_nI (by omega) (by omega), Option.bind_some, show C 2405 = nI k from ek, h.a, eA]
  simp only [bd_assoc, bd_bnd, bd_chk, bd_ite, bdS, bd_obind, bd_id, bd_u]
  rw [show (8 : Int32) = nI 8 from rfl]
  refine k_many h g hk (by omega) (fun σ τ hb => b_le hb (b_must0 hb)) (fun k8 => ?_)
  rw [if_pos h.ok, show (2421 : Int32) + nI k = nI (2421 + k) from nI_add 2421 k, show (2429 : Int32) + nI k = nI (2429 + k) from nI_add 2429 k, show (2437 : Int32) + nI k = nI (2437 + k) from nI_add 2437 k]
  obtain ⟨σ1, τ1, s1, e1, o1, o2, l1, h1, -⟩ := h.nxt g
  rw [o1, o2, bdS, bdS, bnd_eq, show gI σ1 9 u 0 7 = nI k by rw [h1.a]; exact eA]
  refine k_c9Li h1 (by omega) (by omega) (fun σ2 e2' h2 => ?_)
  refine k_newname h2 (x := k) (P := k) (S := S) (by omega) hk hS eA eA' ek eS (fun i hi => ?_) (fun i hi => ?_) (fun σ3 τ3 s3 e3 nm l3 h3 => ?_) (fun σ3 τ3 hb => ?_)
  · rw [uVL_n (by omega)]; exact (tp.2.1.2.2.2.2.2.2.2.2.1 i (by omega)).1
  · rw [uVL_n (by omega)]; exact ((tp.2.1.2.2.2.2.2.2.2.2.2 i (by omega)).1).trans (by show W (56 + (8 + i)) = W (64 + i); rw [show 56 + (8 + i) = 64 + i by omega])
  rotate_left
  · refine b_must hb ?_
    refine b_count hb ?_
    refine b_cell hb rfl (by omega) (by omega) (fun τ4 hb => ?_)
    refine b_must hb ?_
    refine b_count hb ?_
    refine b_cell hb rfl (by omega) (by omega) (fun τ5 hb => ?_)
    exact b_eq hb (b_pea122 hb)
  refine k_word h3 8 (by omega) rfl (w_size) (fun σ4 τ4 s4 e4 l4 _ h4 => ?_) (fun σ4 τ4 hb => ?_)
  rotate_left
  · refine b_count hb ?_
    refine b_cell hb rfl (by omega) (by omega) (fun τ4 hb => ?_)
    refine b_must hb ?_
    refine b_count hb ?_
    refine b_cell hb rfl (by omega) (by omega) (fun τ5 hb => ?_)
    exact b_eq hb (b_pea122 hb)
  refine k_num h4 (fun a σ5 τ5 s5 e5 a1 a2 l5 q5 h5 => ?_) (fun σ5 τ5 hb => ?_)
  rotate_left
  · refine b_cell hb rfl (by omega) (by omega) (fun τ4 hb => ?_)
    refine b_must hb ?_
    refine b_count hb ?_
    refine b_cell hb rfl (by omega) (by omega) (fun τ5 hb => ?_)
    exact b_eq hb (b_pea122 hb)
  rw [q5]
  refine k_c9i h5 (by omega) (by omega) (fun σ6 h6 _ => ?_)
  refine k_m5 h6 rfl (by omega) (by omega) (fun τ6 h7 _ => ?_)
  refine k_word h7 9 (by omega) rfl (w_weight) (fun σ8 τ8 s8 e8 l8 _ h8 => ?_) (fun σ8 τ8 hb => ?_)
  rotate_left
  · refine b_count hb ?_
    refine b_cell hb rfl (by omega) (by omega) (fun τ5 hb => ?_)
    exact b_eq hb (b_pea122 hb)
  refine k_num h8 (fun b σ9 τ9 s9 e9 b1 b2 l9 q9 h9 => ?_) (fun σ9 τ9 hb => ?_)
  rotate_left
  · refine b_cell hb rfl (by omega) (by omega) (fun τ5 hb => ?_)
    exact b_eq hb (b_pea122 hb)
  rw [q9]
  refine k_c9i h9 (by omega) (by omega) (fun σ10 h10 _ => ?_)
  refine k_c9i h10 (by omega) (by omega) (fun σ11 h11 _ => ?_)
  refine k_m5 h11 rfl (by omega) (by omega) (fun τ12 h12 _ => ?_)
  rw [if_pos h12.2.1.1]
  have nme : gL σ2 8 0 0 6 = gL τ1 12 0 0 19 := nm
  have l3' : gL σ1 8 0 0 6 = gL τ1 12 0 0 19 := by rw [← nme, e2', rL_a (by decide)]
  have kw37 : sh (upd (upd C (2421 + k) a) (2429 + k) b) (37 + k) = 0 := by
    show upd _ _ _ (2400 + (37 + k)) = 0
    rw [upd_ne (by omega), upd_ne (by omega)]; exact (tp.2.2.1 k (by omega) k8).1
  have hl : ∀ x j, ¬ (x = 3 ∧ j = k) → uVL AL 3 k (gL σ1 8 0 0 6) x j = AL x j := fun x j q => uVL_n q
  have hw' : ∀ j, ¬ j = k → shW (vp_updL W (56 + k) (gL τ1 12 0 0 19)) j = shW W j := fun j q => updL_ne (by omega)
  have w1' : shW (vp_updL W (56 + k) (gL τ1 12 0 0 19)) k = gL σ1 8 0 0 6 := by rw [l3']; exact updL_s
  by_cases kc : wix τ12 = nI 10
  · rw [h12.skip_yes (x := 10) (i := 10) rfl kc, if_pos ((w_crooked (τ := τ12)).mpr kc)]
    obtain ⟨σ13, τ13, s13, e13, o13, o13', l13, h13, -⟩ := h12.nxt (go1 (wix_go (i := 10) (by omega) kc))
    rw [o13, o13']
    simp only [bdS, if_true]
    refine k_num h13 (fun d σ14 τ14 s14 e14 d1 d2 l14 q14 h14 => ?_) (fun σ14 τ14 hb => ?_)
    rotate_left
    · refine b_cell hb rfl (by omega) (by omega) (fun τ5 hb => ?_)
      exact b_pea122 hb
    rw [q14]
    refine k_c9i h14 (by omega) (by omega) (fun σ15 h15 _ => ?_)
    refine k_m5 h15 rfl (by omega) (by omega) (fun τ16 h16 _ => ?_)
    exact pea_end h16 (by omega) tp ek k8 ⟨a1, a2⟩ ⟨b1, b2⟩ ⟨d1, d2⟩
      (fun x j q1 q2 q3 => by rw [uV_n q3, uV_n q3, uV_n q2, uV_n q1]) (by rw [uV_n (by omega), uV_n (by omega), uV_n (by omega), uV_s]) (by rw [uV_n (by omega), uV_n (by omega), uV_s]) uV_s hl uVL_s hw' w1'
      (fun j q1 q2 q3 => by show upd _ _ _ (2400 + j) = _; rw [upd_ne (by omega), upd_ne (by omega), upd_ne (by omega)]; rfl)
      (by show upd _ _ _ (2400 + (21 + k)) = _; rw [upd_ne (by omega), upd_ne (by omega), show 2400 + (21 + k) = 2421 + k by omega, upd_s]) (by show upd _ _ _ (2400 + (29 + k)) = _; rw [upd_ne (by omega), show 2400 + (29 + k) = 2429 + k by omega, upd_s]) (by show upd _ _ _ (2400 + (37 + k)) = _; rw [show 2400 + (37 + k) = 2437 + k by omega, upd_s])
  · rw [h12.skip_no (x := 10) (i := 10) rfl kc, if_neg (fun e => kc ((w_crooked (τ := τ12)).mp e))]
    simp only [bdS, Bool.false_eq_true, if_false]
    exact pea_end h12 (by omega) tp ek k8 ⟨a1, a2⟩ ⟨b1, b2⟩ ⟨by decide, by decide⟩
      (fun x j q1 q2 q3 => by rw [uV_n q3, uV_n q2, uV_n q1]) (by rw [uV_n (by omega), uV_n (by omega), uV_s]) (by rw [uV_n (by omega), uV_s]) uV_s hl uVL_s hw' w1'
      (fun j q1 q2 q3 => by show upd _ _ _ (2400 + j) = _; rw [upd_ne (by omega), upd_ne (by omega)]; rfl)
      (by show upd _ _ _ (2400 + (21 + k)) = _; rw [upd_ne (by omega), show 2400 + (21 + k) = 2421 + k by omega, upd_s]) (by show upd _ _ _ (2400 + (29 + k)) = _; rw [show 2400 + (29 + k) = 2429 + k by omega, upd_s]) kw37
end TRN
