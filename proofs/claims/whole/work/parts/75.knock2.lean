/-! PURE. knock; the trays. -/
section KNP
variable {σC σM σ τ : Mem}
theorem ix60 (t k : Nat) : (60 : Int32) * nI t + nI k = nI (60 * t + k) := by rw [show (60 : Int32) = nI 60 from rfl, pk_mul, nI_add]
theorem isTray_w {x : Int32} : F11_isTray x = F11_within x 0 3 := rfl
theorem isTrayM_w {x : Int32} : F12_isTray x = F11_within x 0 3 := wi_0_3
theorem in_tray {x : Int32} (h : F11_within x 0 3 = true) : ∃ t, t < 4 ∧ x = nI t := by
  have w := wn_int h
  have e3 : (3 : Int32).toInt = 3 := rfl
  have e0 : (0 : Int32).toInt = 0 := rfl
  obtain ⟨t, ht, rfl⟩ := i32_ex (x := x) 3 (by omega) (by omega)
  exact ⟨t, by omega, rfl⟩
/-- a tray that is there -/
def TrIs (σC σM : Mem) (t M : Nat) : Prop := gB σC 10 t 0 0 = true ∧ gI σC 10 t 0 1 = gI σM 12 0 1 t ∧ gI σC 10 t 0 2 = nI M ∧ gI σM 12 0 2 t = nI M ∧ M ≤ 60 ∧ ∀ k, k < M → gL σC 10 t 1 k = gL σM 12 0 3 (60 * t + k)
theorem Rel.tray (h : Rel σC σM) {t : Nat} (ht : t < 4) : (gB σC 10 t 0 0 = false ∧ gI σM 12 0 2 t = -1) ∨ ∃ M, TrIs σC σM t M := by
  rcases h.1.1 t ht with h1 | ⟨h1, h2, h3, h4, h5, h6⟩
  · exact .inl h1
  · have b := b32 ⟨h4, h5⟩
    have e60 : (60 : Int32).toInt = 60 := rfl
    have n := nat_i (gI σM 12 0 2 t)
    have e := nI_of32 h4
    exact .inr ⟨nat (gI σM 12 0 2 t), h1, h2, h3.trans e, e, by have : (0 : Int32).toInt = 0 := rfl; omega, h6⟩
theorem hasFrom_iff {t M : Nat} {x n : Int32} (hM : gI σ 10 t 0 2 = nI M) (hb : M ≤ 60) : F10_hasFrom σ t x n = true ↔ 0 ≤ x.toInt ∧ 0 ≤ n.toInt ∧ x.toInt + n.toInt ≤ M := by
  have eM := nI_int (n := M) (by omega)
  have e0 : (0 : Int32).toInt = 0 := rfl
  unfold F10_hasFrom
  rw [hM]
  by_cases h1 : x < 0
  · rw [if_pos h1]
    have := i32_lt.mp h1
    exact ⟨fun e => absurd e (by decide), fun e => by omega⟩
  rw [if_neg h1]
  have h1' : ¬ x.toInt < (0 : Int32).toInt := fun e => h1 (i32_lt.mpr e)
  by_cases h2 : n < 0
  · rw [if_pos h2]
    have := i32_lt.mp h2
    exact ⟨fun e => absurd e (by decide), fun e => by omega⟩
  rw [if_neg h2]
  have h2' : ¬ n.toInt < (0 : Int32).toInt := fun e => h2 (i32_lt.mpr e)
  by_cases h3 : nI M < n
  · rw [if_pos h3]
    have := i32_lt.mp h3
    exact ⟨fun e => absurd e (by decide), fun e => by omega⟩
  rw [if_neg h3]
  have h3' : ¬ (nI M).toInt < n.toInt := fun e => h3 (i32_lt.mpr e)
  have es : (nI M - n).toInt = M - n.toInt := by rw [i32_sub] <;> rw [eM] <;> omega
  by_cases h4 : nI M - n < x
  · rw [if_pos h4]
    have := i32_lt.mp h4
    exact ⟨fun e => absurd e (by decide), fun e => by omega⟩
  rw [if_neg h4]
  have h4' : ¬ (nI M - n).toInt < x.toInt := fun e => h4 (i32_lt.mpr e)
  exact ⟨fun _ => by omega, fun _ => rfl⟩
/-- a number that is a shooter's -/
def Gd (c : Nat → Int32) (v : Int64) : Prop := ∃ s, s < nat (c 6) ∧ v = lN s
theorem Gd.iff {c : Nat → Int32} (o : TentOk c) (v : Int64) : Gd c v ↔ (0 ≤ v.toInt ∧ v.toInt < nat (c 6)) := by
  have h6 := ok_n6 o
  constructor
  · rintro ⟨s, h1, rfl⟩
    rw [lN_int (by omega)]; omega
  · rintro ⟨h1, h2⟩
    refine ⟨v.toInt.toNat, by omega, ?_⟩
    rw [i64_eq, lN_int (by omega)]; omega
theorem first_bad {P : Nat → Prop} : (∀ j, j < 4 → P j) ∨ ∃ j, j < 4 ∧ ¬ P j ∧ ∀ i, i < j → P i := by
  by_cases h0 : P 0
  · by_cases h1 : P 1
    · by_cases h2 : P 2
      · by_cases h3 : P 3
        · left; intro j hj
          rcases (show j = 0 ∨ j = 1 ∨ j = 2 ∨ j = 3 by omega) with rfl | rfl | rfl | rfl <;> assumption
        · exact .inr ⟨3, by omega, h3, fun i hi => by rcases (show i = 0 ∨ i = 1 ∨ i = 2 by omega) with rfl | rfl | rfl <;> assumption⟩
      · exact .inr ⟨2, by omega, h2, fun i hi => by rcases (show i = 0 ∨ i = 1 by omega) with rfl | rfl <;> assumption⟩
    · exact .inr ⟨1, by omega, h1, fun i hi => by rcases (show i = 0 by omega) with rfl; assumption⟩
  · exact .inr ⟨0, by omega, h0, fun i hi => by omega⟩
theorem c_wk (h : Rel σC σM) {t M : Nat} (ht : t < 4) (tr : TrIs σC σM t M) (hM : 4 ≤ M) (x3 : Int32) :
    ((∀ j, j < 4 → Gd (gI σM 12 0 5) (gL σM 12 0 3 (60 * t + j))) → F11_wrongKnock_L29 (nI t) x3 fuelK σC 0 = some (if F11_within x3 0 3 = true then 0 else 5)) ∧
    (∀ j, j < 4 → ¬ Gd (gI σM 12 0 5) (gL σM 12 0 3 (60 * t + j)) → (∀ i, i < j → Gd (gI σM 12 0 5) (gL σM 12 0 3 (60 * t + i))) → F11_wrongKnock_L29 (nI t) x3 fuelK σC 0 = some 2) := by
  have o := h.ok5
  have h6 := ok_n6 o
  have e6 := ok_i6 o
  have e0 : (0 : Int64).toInt = 0 := rfl
  have rowi : ∀ j, j < 4 → gL σC 10 t 1 j = gL σM 12 0 3 (60 * t + j) := fun j hj => tr.2.2.2.2.2 j (by omega)
  have lim : (gI σC 9 (gR σC 11 0 0 5) 0 13).toInt64.toInt = nat (gI σM 12 0 5 6) := by rw [h.tt.1.2.2.2.2.2, i64_of32, e6, nI_int (by omega), nat_nI (by omega)]
  have step : ∀ n i, i < 4 → Gd (gI σM 12 0 5) (gL σM 12 0 3 (60 * t + i)) → F11_wrongKnock_L29 (nI t) x3 (n + 1) σC (nI i) = F11_wrongKnock_L29 (nI t) x3 n σC (nI (i + 1)) := by
    intro n i hi hg
    have hg2 := (Gd.iff o _).mp hg
    simp only [F11_wrongKnock_L29.eq_2]
    rw [if_neg (show ¬ (4 : Int32) ≤ nI i from nI_ge (a := i) (b := 4) (by omega) (by omega)), ald_nI (by omega) (by omega), Option.bind_some]
    simp only [id]
    rw [ald_nI (by omega) (by omega), Option.bind_some, rowi i hi, if_neg (by rw [i64_lt, e0]; omega), gd_at h.t5, if_pos (by rw [i64_lt, lim]; omega), nI_1]
  constructor
  · intro hg
    have key : ∃ r, F11_wrongKnock_L29 (nI t) x3 fuelK σC 0 = some r ∧ r = (if F11_within x3 0 3 = true then 0 else 5) := by
      refine loopG (L := fun m (w : Int32) => F11_wrongKnock_L29 (nI t) x3 m σC w) (N := 4) (Inv := fun i w => w = nI i) ?_ 4 fuelK 0 0 (by omega) (fuelK_lt (by omega)) rfl
      rintro m i w hi rfl
      by_cases e : i = 4
      · subst e
        left
        simp only [F11_wrongKnock_L29.eq_2]
        rw [if_pos (show (4 : Int32) ≤ nI 4 by decide)]
        by_cases hw : F11_within x3 0 3 = true
        · rw [if_pos hw, if_pos hw]; exact ⟨_, rfl, rfl⟩
        · rw [if_neg hw, if_neg hw]; exact ⟨_, rfl, rfl⟩
      · exact .inr ⟨by omega, nI (i + 1), step m i (by omega) (hg i (by omega)), rfl⟩
    obtain ⟨r, k1, k2⟩ := key
    rw [k1, k2]
  · intro j hj hb hg
    have key : ∃ r, F11_wrongKnock_L29 (nI t) x3 fuelK σC 0 = some r ∧ r = 2 := by
      refine loopG (L := fun m (w : Int32) => F11_wrongKnock_L29 (nI t) x3 m σC w) (N := j) (Inv := fun i w => w = nI i) ?_ j fuelK 0 0 (by omega) (fuelK_lt (by omega)) rfl
      rintro m i w hi rfl
      by_cases e : i = j
      · subst e
        left
        have hb2 : ¬ (0 ≤ (gL σM 12 0 3 (60 * t + i)).toInt ∧ (gL σM 12 0 3 (60 * t + i)).toInt < nat (gI σM 12 0 5 6)) := fun e => hb ((Gd.iff o _).mpr e)
        simp only [F11_wrongKnock_L29.eq_2]
        rw [if_neg (show ¬ (4 : Int32) ≤ nI i from nI_ge (a := i) (b := 4) (by omega) (by omega)), ald_nI (by omega) (by omega), Option.bind_some]
        simp only [id]
        rw [ald_nI (by omega) (by omega), Option.bind_some, rowi i hj]
        by_cases hn : gL σM 12 0 3 (60 * t + i) < 0
        · rw [if_pos hn]; exact ⟨_, rfl, rfl⟩
        · rw [if_neg hn, gd_at h.t5]
          have : ¬ (gL σM 12 0 3 (60 * t + i)).toInt < (0 : Int64).toInt := fun e => hn (i64_lt.mpr e)
          rw [if_neg (by rw [i64_lt, lim]; omega)]; exact ⟨_, rfl, rfl⟩
      · exact .inr ⟨by omega, nI (i + 1), step m i (by omega) (hg i (by omega)), rfl⟩
    obtain ⟨r, k1, k2⟩ := key
    rw [k1, k2]
theorem m_num {t k : Nat} (h : 60 * t + k < 240) : F12_numberOf τ (nI t) (nI k) = some (gL τ 12 0 3 (60 * t + k)) := by
  unfold F12_numberOf
  rw [ix60, ald_nI (by omega) (by omega), Option.bind_some]
theorem c_rivals (h : Rel σC σM) {t p : Nat} (ht : t < 4) {s : Nat → Nat} (hs : ∀ i, i < 4 → s i < nat (gI σM 12 0 5 6) ∧ gL σC 10 t 1 i = lN (s i)) (hp : p < nat (gI σM 12 0 5 5)) (x3 : Int32) :
    ∃ σ' l, F11_knock_L24 (nI t) (nI p) x3 fuelK σC 0 = some ((), σ') ∧ FC [2, 6] σC σ' ∧ Rivs σ' (gI σM 12 0 5) p s l := by
  have step : ∀ n σ i, i < 4 → FC [2, 6] σC σ → ∃ σ' l, F11_knock_L24 (nI t) (nI p) x3 (n + 1) σ (nI i) = F11_knock_L24 (nI t) (nI p) x3 n σ' (nI (i + 1)) ∧ FC [2, 6] σC σ' ∧ Riv σ' i (zR (gI σM 12 0 5) (s i) p) 1 l ∧ (∀ j, j ≠ 1 + i → gL σ' 2 j 2 = gL σ 2 j 2) := by
    intro n σ i hi f
    obtain ⟨σ', l, r1, r2, r3, r4⟩ := c_rival (σ := σ) (i := i) (shots := 1) h f.w26 hi (by omega) (hs i hi).1 hp
    refine ⟨σ', l, ?_, f.t r2, r3, r4⟩
    simp only [F11_knock_L24.eq_2]
    rw [if_neg (show ¬ (4 : Int32) ≤ nI i from nI_ge (a := i) (b := 4) (by omega) (by omega)), ald_nI (by omega) (by omega), Option.bind_some]
    simp only [id]
    rw [ald_nI (by omega) (by omega), Option.bind_some, f.fL 10 t 1 (by decide), (hs i hi).2, lN_i, show F11_setRival σ (nI i) (nI (s i)) (nI p) 1 = _ from r1, bd_some, nI_1]
  obtain ⟨m, hm⟩ : ∃ m, fuelK = m + 5 := ⟨fuelK - 5, by have := fuel_big; omega⟩
  obtain ⟨σ1, l0, a1, a2, a3, a4⟩ := step (m + 4) σC 0 (by omega) FC.z
  obtain ⟨σ2, l1, b1, b2, b3, b4⟩ := step (m + 3) σ1 1 (by omega) a2
  obtain ⟨σ3, l2, c1, c2, c3, c4⟩ := step (m + 2) σ2 2 (by omega) b2
  obtain ⟨σ4, l3, d1, d2, d3, d4⟩ := step (m + 1) σ3 3 (by omega) c2
  refine ⟨σ4, fun i => if i = 0 then l0 else if i = 1 then l1 else if i = 2 then l2 else l3, ?_, d2, ?_⟩
  · rw [hm, show (0 : Int32) = nI 0 from rfl, a1, b1, c1, d1]
    simp only [F11_knock_L24.eq_2]
    rw [if_pos (by decide)]
  · intro i hi
    rcases (show i = 0 ∨ i = 1 ∨ i = 2 ∨ i = 3 by omega) with rfl | rfl | rfl | rfl
    · exact ⟨a3.1, a3.2.1, fun v hv => by rw [d4 _ (by omega), c4 _ (by omega), b4 _ (by omega)]; exact a3.2.2 v hv⟩
    · exact ⟨b3.1, b3.2.1, fun v hv => by rw [d4 _ (by omega), c4 _ (by omega)]; exact b3.2.2 v hv⟩
    · exact ⟨c3.1, c3.2.1, fun v hv => by rw [d4 _ (by omega)]; exact c3.2.2 v hv⟩
    · exact d3
theorem st_knock (h : Rel σC σM) (x1 x2 x3 : Int32) : Stq (F11_knock σC x1 x2 x3) (F12_knock σM x1 x2 x3) := by
  have o := h.ok5
  have h6 := ok_n6 o
  have e6 := ok_i6 o
  have ne1 : ¬ (1 : Int32) = 0 := by decide
  have ne3 : ¬ (3 : Int32) = 0 := by decide
  have ne4 : ¬ (4 : Int32) = 0 := by decide
  have t2 : gI (mS σM) 12 0 2 = gI σM 12 0 2 := by simp (disch := decide) only [rI_c]
  unfold F11_knock F12_knock F11_wrongKnock F11_wrongPlace
  rw [bnd_mS, isTray_w, isTrayM_w, c_isPea h, m_isPea, mS_c]
  by_cases g1 : ¬ F11_within x1 0 3 = true
  · simp only [g1, ne1, ↓reduceIte, if_false, Bool.false_and, Bool.and_false, Bool.true_and, Bool.and_true, Bool.false_eq_true, if_true, Bool.and_self, ans_eq, ref_eq, agr_eq, den_eq, mref_eq, mno_eq, bd_some, Option.bind_some, ne_2_0, ne_5_0]
    exact ⟨_, _, _, rfl, rfl, h.no 1⟩
  replace g1 := Decidable.not_not.mp g1
  obtain ⟨t, ht, rfl⟩ := in_tray g1
  rw [if_pos g1, if_pos g1, ald_nI (by omega) (by omega), ald_nI (by omega) (by omega), Option.bind_some, t2]
  simp only [id]
  rcases h.tray ht with ⟨q1, q2⟩ | ⟨M, tr⟩
  · rw [q1, q2]
    have n1 : ¬ (0 : Int32) ≤ -1 := by decide
    simp only [n1, ne3, ↓reduceIte, if_false, Bool.false_and, Bool.and_false, Bool.true_and, Bool.and_true, Bool.false_eq_true, if_true, Bool.and_self, ans_eq, ref_eq, agr_eq, den_eq, mref_eq, mno_eq, bd_some, Option.bind_some, ne_2_0, ne_5_0]
    exact ⟨_, _, _, rfl, rfl, h.no 3⟩
  have hM60 := tr.2.2.2.2.1
  have q0 : 0 ≤ nI M := nI_pos' (by omega)
  have e3 : (3 : Int32).toInt = 3 := rfl
  have e1 : (1 : Int32).toInt = 1 := rfl
  have hfr := hasFrom_iff (x := 3) (n := 1) tr.2.2.1 hM60
  rw [tr.1, tr.2.2.2.1]
  by_cases g2 : ¬ 4 ≤ M
  · have n2 : F10_hasFrom σC t 3 1 = false := by
      cases hh : F10_hasFrom σC t 3 1 with
      | false => rfl
      | true => have := hfr.mp hh; omega
    have n3 : ¬ (4 : Int32) ≤ nI M := nI_ge (a := M) (b := 4) (by omega) (by omega)
    simp only [n2, n3, q0, ne4, ↓reduceIte, if_false, Bool.false_and, Bool.and_false, Bool.true_and, Bool.and_true, Bool.false_eq_true, if_true, Bool.and_self, ans_eq, ref_eq, agr_eq, den_eq, mref_eq, mno_eq, bd_some, Option.bind_some, ne_2_0, ne_5_0]
    exact ⟨_, _, _, rfl, rfl, h.no 4⟩
  replace g2 := Decidable.not_not.mp g2
  have n2 : F10_hasFrom σC t 3 1 = true := hfr.mpr (by omega)
  have n3 : (4 : Int32) ≤ nI M := nI_le (a := 4) (b := M) (by omega) (by omega)
  simp only [n2, n3, q0, if_true, Option.bind_some]
  by_cases g3 : ¬ F11_within x2 0 (gI σM 12 0 5 5 - 1) = true
  · simp only [g3, ↓reduceIte, if_false, Bool.false_and, Bool.and_false, Bool.true_and, Bool.and_true, Bool.false_eq_true, if_true, Bool.and_self, ans_eq, ref_eq, agr_eq, den_eq, mref_eq, mno_eq, bd_some, Option.bind_some, ne_2_0, ne_5_0]
    exact ⟨_, _, _, rfl, rfl, h.no 2⟩
  replace g3 := Decidable.not_not.mp g3
  obtain ⟨p, hp, rfl⟩ := in_rng (n5_int o) g3
  rw [if_pos g3, if_pos g3]
  obtain ⟨wk1, wk2⟩ := c_wk h ht tr g2 x3
  have t3 : ∀ j, gL (mS σM) 12 0 3 j = gL σM 12 0 3 j := fun j => rfl
  have e0 : (0 : Int64).toInt = 0 := rfl
  -- the model's look at the four
  have mtest : ∀ v : Int64, F12_isIn v 0 (Int32.toInt64 (gI σM 12 0 5 6 - 1)) = true ↔ Gd (gI σM 12 0 5) v := by
    intro v
    rw [isIn_iff, i64_le, i64_le, i64_of32, Gd.iff o, e0]
    have e : (gI σM 12 0 5 6 - 1).toInt = nat (gI σM 12 0 5 6) - 1 := by
      have : (gI σM 12 0 5 6).toInt = nat (gI σM 12 0 5 6) := by rw [e6, nI_int (by omega), nat_nI (by omega)]
      rw [i32_sub] <;> rw [this, e1] <;> omega
    rw [e]; omega
  have mstep : ∀ n i, i < 4 → Gd (gI σM 12 0 5) (gL σM 12 0 3 (60 * t + i)) → F12_knock_L72 (nI t) (nI p) x3 (n + 1) (mS σM) (nI i) = F12_knock_L72 (nI t) (nI p) x3 n (mS σM) (nI (i + 1)) := by
    intro n i hi hg
    simp only [F12_knock_L72.eq_2]
    rw [if_neg (show ¬ (4 : Int32) ≤ nI i from nI_ge (a := i) (b := 4) (by omega) (by omega)), m_num (by omega), Option.bind_some, al_6, Option.bind_some, mS_c, t3, if_pos ((mtest _).mpr hg), nI_1]
  obtain ⟨m, hm⟩ : ∃ m, fuelK = m + 5 := ⟨fuelK - 5, by have := fuel_big; omega⟩
  rcases first_bad (P := fun j => Gd (gI σM 12 0 5) (gL σM 12 0 3 (60 * t + j))) with hall | ⟨j, hj, hbad, hgood⟩
  · have m4 : F12_knock_L72 (nI t) (nI p) x3 fuelK (mS σM) 0 = F12_knock_L72 (nI t) (nI p) x3 (m + 1) (mS σM) (nI 4) := by
      rw [hm]
      exact (((mstep (m + 4) 0 (by omega) (hall 0 (by omega))).trans (mstep (m + 3) 1 (by omega) (hall 1 (by omega)))).trans (mstep (m + 2) 2 (by omega) (hall 2 (by omega)))).trans (mstep (m + 1) 3 (by omega) (hall 3 (by omega)))
    rw [wk1 hall, m4]
    simp only [F12_knock_L72.eq_2]
    rw [if_pos (show (4 : Int32) ≤ nI 4 by decide), wi_0_3, Option.bind_some]
    by_cases g4 : ¬ F11_within x3 0 3 = true
    · simp only [g4, ↓reduceIte, if_false, Bool.false_and, Bool.and_false, Bool.true_and, Bool.and_true, Bool.false_eq_true, if_true, Bool.and_self, ans_eq, ref_eq, agr_eq, den_eq, mref_eq, mno_eq, bd_some, Option.bind_some, ne_2_0, ne_5_0]
      exact ⟨_, _, _, rfl, rfl, h.no 5⟩
    replace g4 := Decidable.not_not.mp g4
    obtain ⟨k, hk, rfl⟩ := in_tray g4
    rw [if_pos g4, if_pos g4, if_pos rfl]
    -- the four shooters
    have ex : ∀ i, ∃ s, i < 4 → s < nat (gI σM 12 0 5 6) ∧ gL σM 12 0 3 (60 * t + i) = lN s := by
      intro i
      by_cases hi : i < 4
      · obtain ⟨s, s1, s2⟩ := hall i hi; exact ⟨s, fun _ => ⟨s1, s2⟩⟩
      · exact ⟨0, fun e => absurd e hi⟩
    obtain ⟨s, hs⟩ := Classical.axiomOfChoice ex
    obtain ⟨σ2, l, r1, r2, r3⟩ := c_rivals h ht (s := s) (fun i hi => ⟨(hs i hi).1, by rw [tr.2.2.2.2.2 i (by omega)]; exact (hs i hi).2⟩) hp (nI k)
    have hsl := fun i (hi : i < 4) => (hs i hi).1
    have nm : ∀ i, i < 4 → F12_numberOf (mS σM) (nI t) (nI i) = some (lN (s i)) := fun i hi => by rw [m_num (by omega), t3, (hs i hi).2]
    rw [r1, bd_some, nm k hk, Option.bind_some, bnd_eq, lN_i]
    have fz : FMS (mS σM) (mS σM) := FM.z
    rcases (show k = 0 ∨ k = 1 ∨ k = 2 ∨ k = 3 by omega) with rfl | rfl | rfl | rfl
    · rw [if_pos (show iRem (nI 0) 2 = 0 by decide), show (nI 0 + 1 : Int32) = nI 1 from rfl, show (nI 0 ^^^ 1 : Int32) = nI 1 by decide, nm 1 (by omega), Option.bind_some, bnd_eq, lN_i]
      unfold F11_knock_p72 F12_knock_p164
      rw [if_neg (by decide), if_neg (by decide), show F12_numberOf (mS σM) (nI t) 2 = _ from nm 2 (by omega), Option.bind_some, bnd_eq, lN_i, if_neg (by decide)]
      exact knock_end h r2 fz r3 hsl hp (k := 0) (m := 1) (x := 2) (by omega) (by omega) (by omega) (nI t) 3 (nm 3 (by omega))
    · rw [if_neg (show ¬ iRem (nI 1) 2 = 0 by decide), show (nI 1 - 1 : Int32) = nI 0 by decide, show (nI 1 ^^^ 1 : Int32) = nI 0 by decide, nm 0 (by omega), Option.bind_some, bnd_eq, lN_i]
      unfold F11_knock_p72 F12_knock_p164
      rw [if_neg (by decide), if_neg (by decide), show F12_numberOf (mS σM) (nI t) 2 = _ from nm 2 (by omega), Option.bind_some, bnd_eq, lN_i, if_neg (by decide)]
      exact knock_end h r2 fz r3 hsl hp (k := 1) (m := 0) (x := 2) (by omega) (by omega) (by omega) (nI t) 3 (nm 3 (by omega))
    · rw [if_pos (show iRem (nI 2) 2 = 0 by decide), show (nI 2 + 1 : Int32) = nI 3 from rfl, show (nI 2 ^^^ 1 : Int32) = nI 3 by decide, nm 3 (by omega), Option.bind_some, bnd_eq, lN_i]
      unfold F11_knock_p72 F12_knock_p164
      rw [if_pos (by decide), if_pos (by decide), show F12_numberOf (mS σM) (nI t) 0 = _ from nm 0 (by omega), Option.bind_some, bnd_eq, lN_i, if_pos (by decide)]
      exact knock_end h r2 fz r3 hsl hp (k := 2) (m := 3) (x := 0) (by omega) (by omega) (by omega) (nI t) 1 (nm 1 (by omega))
    · rw [if_neg (show ¬ iRem (nI 3) 2 = 0 by decide), show (nI 3 - 1 : Int32) = nI 2 by decide, show (nI 3 ^^^ 1 : Int32) = nI 2 by decide, nm 2 (by omega), Option.bind_some, bnd_eq, lN_i]
      unfold F11_knock_p72 F12_knock_p164
      rw [if_pos (by decide), if_pos (by decide), show F12_numberOf (mS σM) (nI t) 0 = _ from nm 0 (by omega), Option.bind_some, bnd_eq, lN_i, if_pos (by decide)]
      exact knock_end h r2 fz r3 hsl hp (k := 3) (m := 2) (x := 0) (by omega) (by omega) (by omega) (nI t) 1 (nm 1 (by omega))
  · rw [wk2 j hj hbad hgood]
    have key : ∃ r, F12_knock_L72 (nI t) (nI p) x3 fuelK (mS σM) 0 = some r ∧ r = (false, sI (mS σM) 12 0 0 0 2) := by
      refine loopG (L := fun n (w : Int32) => F12_knock_L72 (nI t) (nI p) x3 n (mS σM) w) (N := j) (Inv := fun i w => w = nI i) ?_ j fuelK 0 0 (by omega) (fuelK_lt (by omega)) rfl
      rintro n i w hi rfl
      by_cases e : i = j
      · subst e
        left
        simp only [F12_knock_L72.eq_2]
        rw [if_neg (show ¬ (4 : Int32) ≤ nI i from nI_ge (a := i) (b := 4) (by omega) (by omega)), m_num (by omega), Option.bind_some, al_6, Option.bind_some, mS_c, t3, if_neg (fun e => hbad ((mtest _).mp e)), mno_eq, bd_some]
        exact ⟨_, rfl, rfl⟩
      · exact .inr ⟨by omega, nI (i + 1), mstep n i (by omega) (hgood i (by omega)), rfl⟩
    obtain ⟨r, k1, k2⟩ := key
    rw [k1, k2]
    simp only [↓reduceIte, if_false, Bool.false_and, Bool.and_false, Bool.true_and, Bool.and_true, Bool.false_eq_true, if_true, Bool.and_self, ans_eq, ref_eq, agr_eq, den_eq, mref_eq, mno_eq, bd_some, Option.bind_some, ne_2_0, ne_5_0]
    exact ⟨_, _, _, rfl, rfl, h.no 2⟩
end KNP
