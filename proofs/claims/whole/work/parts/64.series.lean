/-! PURE. series, wipeEvery. -/
section SER
variable {σC σM σ σm : Mem} {p s : Nat}
theorem iRem_nI {a b : Nat} (ha : a < 2147483648) (h0 : 0 < b) (hb : b < 2147483648) : iRem (nI a) (nI b) = nI (a % b) := pk_rem ha h0 hb
theorem iMin_20 {a : Nat} (ha : a ≤ 20) : iMin 20 (nI a + 1) = nI (min 20 (a + 1)) := by
  unfold iMin
  rw [nI_1]
  split
  · rename_i h
    have := (nI_ltI (a := a + 1) (b := 20) (by omega) (by omega)).mp h
    rw [show min 20 (a + 1) = a + 1 by omega]
  · rename_i h
    have : ¬ a + 1 < 20 := fun e => h ((nI_ltI (a := a + 1) (b := 20) (by omega) (by omega)).mpr e)
    rw [show min 20 (a + 1) = 20 by omega]; rfl
/-- how many even chances the class counts on the beat 2 -/
def zA (z : ShN) : Nat := 2 * ((2 * zN z + 1) * (2 * zN z + 1))
theorem zA_q {z : ShN} (hz : ShOk z) (hb : z.2.2.2.2.1 = 2) : 18 / zA z * zA z = 18 ∧ 1 ≤ zA z ∧ zA z ≤ 18 ∧ (∀ l, l * oAll z = zA z → 18 / oAll z = l * (18 / zA z) ∧ 1 ≤ l) ∧ 1 ≤ 18 / zA z ∧ 18 / zA z ≤ 9 := by
  have h1 := sHand_2 hz.1 hz.2.1
  have h2 : zN z ≤ 1 := by unfold zN; rw [hb]; have := nat_i (sHand z.1 z.2.1 2); omega
  have h3 := oAll_le hz
  have hA : zA z = 2 ∨ zA z = 18 := by
    unfold zA
    rcases (show zN z = 0 ∨ zN z = 1 by omega) with e | e <;> rw [e] <;> simp
  have key : 18 / zA z * zA z = 18 := by rcases hA with e | e <;> rw [e]
  refine ⟨key, by omega, by omega, fun l hl => ?_, by rcases hA with e | e <;> rw [e] <;> decide, by rcases hA with e | e <;> rw [e] <;> decide⟩
  have hl1 : 1 ≤ l := by
    rcases Nat.eq_zero_or_pos l with e | e
    · rw [e, Nat.zero_mul] at hl; omega
    · exact e
  refine ⟨?_, hl1⟩
  have e1 : 18 = l * (18 / zA z) * oAll z := by
    have : l * (18 / zA z) * oAll z = 18 / zA z * (l * oAll z) := by rw [Nat.mul_comm l, Nat.mul_assoc]
    rw [this, hl, key]
  exact Nat.div_eq_of_eq_mul_left (by omega) e1
theorem zN_sp {c : Nat → Int32} {puff beat x y sp sp' : Int32} : zN (c, s, p, puff, beat, x, y, sp) = zN (c, s, p, puff, beat, x, y, sp') := rfl
theorem zA_sp {c : Nat → Int32} {puff beat x y : Int32} (sp sp' : Int32) : zA (c, s, p, puff, beat, x, y, sp) = zA (c, s, p, puff, beat, x, y, sp') := rfl
theorem lN_ne0 {n : Nat} (h0 : 0 < n) (h : n < 2147483648) : ¬ lN n = 0 := fun e => by
  have := (lN_eq (a := n) (b := 0) h (by omega)).mp e
  omega
theorem lN_div {a b : Nat} (ha : a < 2147483648) (h0 : 0 < b) (hb : b < 2147483648) : lN a / lN b = lN (a / b) := by
  have e1 := lN_int ha
  have e2 := lN_int hb
  have e3 := lN_int (n := a / b) (Nat.lt_of_le_of_lt (Nat.div_le_self a b) ha)
  rw [i64_eq, Int64.toInt_div, e1, e2, e3, Int.tdiv_eq_ediv_of_nonneg (by omega), bm64]
  · exact (Int.natCast_ediv a b).symm
  · have := Int.ediv_nonneg (show (0 : Int) ≤ a by omega) (show (0 : Int) ≤ b by omega); omega
  · have := Int.ediv_le_self (b : Int) (show (0 : Int) ≤ a by omega); omega
/-- where the two sums stand ahead of shot i -/
def SerI (σ0 σM : Mem) (s p : Nat) (puff x y : Int32) (i : Nat) (w : Mem × Int64 × Int32) (v : Mem × Int64 × Int32 × Int32) : Prop :=
  w.2.2 = nI i ∧ v.2.2.2 = nI i ∧ 1 ≤ i ∧ FC [2, 6] σ0 w.1 ∧ FMS (mS σM) v.1 ∧
  ∃ sp Y : Nat, sp ≤ 20 ∧ v.2.2.1 = nI sp ∧ ShotZ w.1 (gI σM 12 0 5, s, p, puff, 2, x, y, nI sp) ∧ Y ≤ (i - 1) * 360 ∧ w.2.1 = lN Y ∧ v.2.1 = lN (18 / zA (gI σM 12 0 5, s, p, puff, 2, x, y, 0) * Y) ∧
  (1 < i → gI w.1 2 0 0 1 = nI (zA (gI σM 12 0 5, s, p, puff, 2, x, y, 0)))
theorem SerI.sp0 {σ0 : Mem} {puff x y : Int32} {i : Nat} {τ : Mem} {u : Int64} {t : Int32} {v : Mem × Int64 × Int32 × Int32} (h : SerI σ0 σM s p puff x y i (τ, u, t) v) : SerI σ0 σM s p puff x y i (sI τ 6 0 0 6 0, u, t) (v.1, v.2.1, 0, v.2.2.2) := by
  obtain ⟨h1, h2, h3, h4, h5, sp, Y, h6, h7, h8, h9, h10, h11, h12⟩ := h
  obtain ⟨z0, z1, z2, z3, z4, z5, z6, z7⟩ := h8
  refine ⟨h1, h2, h3, FC.sI h4 (by decide), h5, 0, Y, by omega, rfl, ⟨?_, ?_, ?_, ?_, ?_, ?_, ?_, ?_⟩, h9, h10, h11, fun h => by rw [rI_a (by decide)]; exact h12 h⟩
  · rw [rI_n (by decide)]; exact z0
  · rw [rI_n (by decide)]; exact z1
  · rw [rI_n (by decide)]; exact z2
  · rw [rI_n (by decide)]; exact z3
  · rw [rI_n (by decide)]; exact z4
  · rw [rI_n (by decide)]; exact z5
  · rw [rI_s]; rfl
  · rw [rI_n (by decide)]; exact z7
theorem series_L (h : Rel σC σM) {puff x y : Int32} {N k : Nat} (hN : 1 ≤ N ∧ N ≤ 30) (hk : 1 ≤ k ∧ k ≤ 30) (hs : s < nat (gI σM 12 0 5 6)) (hp : p < nat (gI σM 12 0 5 5)) (hpf : 1 ≤ puff.toInt ∧ puff.toInt ≤ 40) (hx : -60 ≤ x.toInt ∧ x.toInt ≤ 60) (hy : -60 ≤ y.toInt ∧ y.toInt ≤ 60)
    (f : FC [0, 1, 2, 6] σC σ) (g : FMS (mS σM) σm) (hz : ShotZ σ (gI σM 12 0 5, s, p, puff, 2, x, y, 0)) :
    ∃ (r : Int64 × Mem) (q : Int64 × Mem), F11_sumOfSeries_L13 (nI N) (nI k) fuelK σ 0 1 = some r ∧ F12_seriesOf_L9 (nI s) (nI p) puff x y (nI N) (nI k) fuelK σm 0 0 1 = some q ∧ FC [2, 6] σ r.2 ∧ FMS (mS σM) q.2 ∧
      (∃ Y, Y ≤ N * 360 ∧ r.1 = lN Y ∧ q.1 = lN (18 / zA (gI σM 12 0 5, s, p, puff, 2, x, y, 0) * Y)) ∧ gI r.2 2 0 0 1 = nI (zA (gI σM 12 0 5, s, p, puff, 2, x, y, 0)) := by
  refine loop2 (L1 := fun n (w : Mem × Int64 × Int32) => F11_sumOfSeries_L13 (nI N) (nI k) n w.1 w.2.1 w.2.2) (L2 := fun n (w : Mem × Int64 × Int32 × Int32) => F12_seriesOf_L9 (nI s) (nI p) puff x y (nI N) (nI k) n w.1 w.2.1 w.2.2.1 w.2.2.2) (N := N + 1)
    (Inv := fun i w v => SerI σ σM s p puff x y i w v) ?_ N fuelK fuelK 1 (σ, 0, 1) (σm, 0, 0, 1) (by omega) (fuelK_lt (by omega)) (fuelK_lt (by omega)) ⟨rfl, rfl, by omega, FC.z, g, 0, 0, by omega, rfl, hz, by omega, rfl, rfl, fun h => absurd h (by omega)⟩
  rintro n m i ⟨σ1, u, t⟩ ⟨σm1, v, sp', t'⟩ hi ⟨e1, e2, e3, f0, g1, sp, Y, e4, e5, e6, e7, e8, e9, e10⟩
  simp only at e1 e2 f0 g1 e5 e6 e8 e9 e10
  have f1 : FC [0, 1, 2, 6] σC σ1 := f.t f0.w26
  subst e1; subst e2; subst e5; subst e8; subst e9
  simp only [F11_sumOfSeries_L13.eq_2, F12_seriesOf_L9.eq_2]
  by_cases e : i = N + 1
  · subst e
    have hlt : nI N < nI (N + 1) := nI_lt (by omega) (by omega)
    rw [if_pos hlt, if_pos hlt]
    exact .inl ⟨_, _, rfl, rfl, f0, g1, ⟨Y, by simpa using e7, rfl, rfl⟩, e10 (by omega)⟩
  · refine .inr ⟨by omega, ?_⟩
    have hlt : ¬ nI N < nI i := nI_nlt (by omega) (by omega)
    rw [if_neg hlt, if_neg hlt]
    have hc : gI σm1 12 0 5 = gI σM 12 0 5 := (FM.c g1 (by decide)).trans mS_c
    have hsp : 0 ≤ (nI sp).toInt ∧ (nI sp).toInt ≤ 20 := by rw [nI_int (by omega)]; omega
    have hzo : ShOk (gI σM 12 0 5, s, p, puff, 2, x, y, nI sp) := ⟨h.ok5, hs, hp, hsp, hpf⟩
    obtain ⟨σ2, l, r1, r2, r3, r4, r5, r6, r7⟩ := c_chances (q := 0) (h.tt.fc f1 (by decide)) hzo ⟨hx, hy⟩ e6
    obtain ⟨σm2, m1, m2, m3, m4, m5⟩ := m_counts (σ := σm1) (s := s) (p := p) (puff := puff) (beat := 2) (x := x) (y := y) (spit := nI sp) (by rw [hc]; exact hzo)
    rw [hc] at m3 m4 m5
    have hc2 : gI σm2 12 0 5 = gI σM 12 0 5 := (m2.c (by decide)).trans hc
    have hf := m_fate (σ := σm2) (p := p) (puff := puff) (spit := nI sp) (by rw [hc2]; exact h.ok5) (by rw [hc2]; exact hp) hsp
    rw [hc2] at hf
    have hle := r7.le hzo
    have hA := oAll_le hzo
    have hS := oSum_le hzo
    obtain ⟨q1, q2, q3, q4, q5, q6⟩ := zA_q hzo rfl
    obtain ⟨q7, q8⟩ := q4 l r7.2.1
    rw [zA_sp (nI sp) 0] at q1 q2 q3 q4 q5 q6 q7
    have hAz : l * oAll (gI σM 12 0 5, s, p, puff, 2, x, y, nI sp) = zA (gI σM 12 0 5, s, p, puff, 2, x, y, 0) := r7.2.1
    have hlS : l * oSum (gI σM 12 0 5, s, p, puff, 2, x, y, nI sp) ≤ 360 := by
      have h5 := Nat.mul_le_mul_left l hS
      rw [← Nat.mul_assoc, Nat.mul_comm l 20, Nat.mul_assoc] at h5; omega
    have eS : oSum (gI σM 12 0 5, s, p, puff, 2, x, y, nI sp) * (18 / oAll (gI σM 12 0 5, s, p, puff, 2, x, y, nI sp)) = 18 / zA (gI σM 12 0 5, s, p, puff, 2, x, y, 0) * (l * oSum (gI σM 12 0 5, s, p, puff, 2, x, y, nI sp)) := by
      rw [q7, Nat.mul_comm, Nat.mul_comm l (18 / _), Nat.mul_assoc]
    rw [h.fct f1 (by decide), gd_at h.t5, r1, bd_some, c_sum r7 hzo, Option.bind_some, bnd_eq, lN_add, r4, m1, bd_some, m4, m5, nI_l (show oAll (gI σM 12 0 5, s, p, puff, 2, x, y, nI sp) < 2 ^ 31 by omega), nI_l (show oSum (gI σM 12 0 5, s, p, puff, 2, x, y, nI sp) < 2 ^ 31 by omega), if_neg (lN_ne0 (by omega) (by omega)), bnd_eq, show (18 : Int64) = lN 18 from rfl, lN_div (by omega) (by omega) (by omega), lN_mul, lN_add, eS, ← Nat.mul_add, hf, bnd_eq, Option.bind_some]
    have hfz : zFate (gI σM 12 0 5, s, p, puff, 2, x, y, nI sp) = sFate (gI σM 12 0 5) p puff (nI sp) := rfl
    rw [hfz]
    have f2 : FC [2, 6] σ σ2 := f0.t r2
    have g2 : FMS (mS σM) σm2 := FM.t g1 (m2.m (by decide) (by decide) (by decide))
    have hY : Y + l * oSum (gI σM 12 0 5, s, p, puff, 2, x, y, nI sp) ≤ (i + 1 - 1) * 360 := by
      rw [show i + 1 - 1 = (i - 1) + 1 by omega, Nat.succ_mul]; omega
    have hall : gI σ2 2 0 0 1 = nI (zA (gI σM 12 0 5, s, p, puff, 2, x, y, 0)) := by rw [r7.2.2.2, hAz]
    -- what follows the shot
    have wipe : ∀ (τ : Mem) (w : Int32), SerI σ σM s p puff x y (i + 1) (τ, lN (Y + l * oSum (gI σM 12 0 5, s, p, puff, 2, x, y, nI sp)), nI (i + 1)) (σm2, lN (18 / zA (gI σM 12 0 5, s, p, puff, 2, x, y, 0) * (Y + l * oSum (gI σM 12 0 5, s, p, puff, 2, x, y, nI sp))), w, nI (i + 1)) →
        ∃ (s' : Mem × Int64 × Int32) (t' : Mem × Int64 × Int32 × Int32), F11_sumOfSeries_p75 (F11_sumOfSeries_L13 (nI N) (nI k) n) τ (nI N) (nI k) (lN (Y + l * oSum (gI σM 12 0 5, s, p, puff, 2, x, y, nI sp))) (nI i) = F11_sumOfSeries_L13 (nI N) (nI k) n s'.1 s'.2.1 s'.2.2 ∧
          F12_seriesOf_p72 (F12_seriesOf_L9 (nI s) (nI p) puff x y (nI N) (nI k) m) σm2 (nI s) (nI p) puff x y (nI N) (nI k) (lN (18 / zA (gI σM 12 0 5, s, p, puff, 2, x, y, 0) * (Y + l * oSum (gI σM 12 0 5, s, p, puff, 2, x, y, nI sp)))) w (nI i) = F12_seriesOf_L9 (nI s) (nI p) puff x y (nI N) (nI k) m t'.1 t'.2.1 t'.2.2.1 t'.2.2.2 ∧
          SerI σ σM s p puff x y (i + 1) s' t' := by
      intro τ w hI
      unfold F11_sumOfSeries_p75 F12_seriesOf_p72
      have hk0 : ¬ nI k ≤ 0 := nI_nle (by omega) (by omega)
      have hkn : ¬ nI k = 0 := nI_ne0 (by omega) (by omega)
      rw [if_neg hk0, if_neg hkn, if_neg hkn, iRem_nI (by omega) (by omega) (by omega)]
      by_cases hr : nI (i % k) = 0
      · rw [if_pos hr, if_pos hr, bnd_eq, nI_1]
        exact ⟨(_, _, _), (_, _, _, _), rfl, rfl, hI.sp0⟩
      · rw [if_neg hr, if_neg hr, nI_1]
        exact ⟨(_, _, _), (_, _, _, _), rfl, rfl, hI⟩
    by_cases hf0 : sFate (gI σM 12 0 5) p puff (nI sp) = 0
    · rw [if_pos hf0, if_pos hf0, bnd_eq, r3.2.2.2.2.2.2.1, iMin_20 e4]
      refine wipe _ _ ⟨rfl, rfl, by omega, FC.sI f2 (by decide), g2, min 20 (sp + 1), _, by omega, rfl, ?_, hY, rfl, rfl, fun _ => by rw [rI_a (by decide)]; exact hall⟩
      obtain ⟨z0, z1, z2, z3, z4, z5, z6, z7⟩ := r3
      refine ⟨?_, ?_, ?_, ?_, ?_, ?_, ?_, ?_⟩
      · rw [rI_n (by decide)]; exact z0
      · rw [rI_n (by decide)]; exact z1
      · rw [rI_n (by decide)]; exact z2
      · rw [rI_n (by decide)]; exact z3
      · rw [rI_n (by decide)]; exact z4
      · rw [rI_n (by decide)]; exact z5
      · rw [rI_s]
      · rw [rI_n (by decide)]; exact z7
    · rw [if_neg hf0, if_neg hf0]
      exact wipe _ _ ⟨rfl, rfl, by omega, f2, g2, sp, _, e4, rfl, r3, hY, rfl, rfl, fun _ => hall⟩
/-- both series -/
theorem series_both (h : Rel σC σM) {puff x y : Int32} {N k : Nat} (hN : 1 ≤ N ∧ N ≤ 30) (hk : 1 ≤ k ∧ k ≤ 30) (hs : s < nat (gI σM 12 0 5 6)) (hp : p < nat (gI σM 12 0 5 5)) (hpf : 1 ≤ puff.toInt ∧ puff.toInt ≤ 40) (hx : -60 ≤ x.toInt ∧ x.toInt ≤ 60) (hy : -60 ≤ y.toInt ∧ y.toInt ≤ 60)
    (f : FC [0, 1, 2, 6] σC σ) (g : FMS (mS σM) σm) :
    ∃ σ1 σ2 σm2 Y, F11_takeShot σ (nI s) (nI p) puff 2 x y = some ((), σ1) ∧ F11_sumOfSeries σ1 (nI N) (nI k) = some (lN Y, σ2) ∧ F12_seriesOf σm (nI s) (nI p) puff x y (nI N) (nI k) = some (lN (18 / zA (gI σM 12 0 5, s, p, puff, 2, x, y, 0) * Y), σm2) ∧
      FC [2, 6] σ σ2 ∧ FMS (mS σM) σm2 ∧ Y ≤ N * 360 ∧ gI σ2 2 0 0 1 = nI (zA (gI σM 12 0 5, s, p, puff, 2, x, y, 0)) := by
  obtain ⟨σ1, k1, k2, k3⟩ := c_takeZ h f s p puff 2 x y
  have hz : ShotZ (sI σ1 6 0 0 6 0) (gI σM 12 0 5, s, p, puff, 2, x, y, 0) := by
    obtain ⟨z0, z1, z2, z3, z4, z5, z6, z7⟩ := k3
    refine ⟨?_, ?_, ?_, ?_, ?_, ?_, ?_, ?_⟩
    · rw [rI_n (by decide)]; exact z0
    · rw [rI_n (by decide)]; exact z1
    · rw [rI_n (by decide)]; exact z2
    · rw [rI_n (by decide)]; exact z3
    · rw [rI_n (by decide)]; exact z4
    · rw [rI_n (by decide)]; exact z5
    · rw [rI_s]
    · rw [rI_n (by decide)]; exact z7
  obtain ⟨⟨u, σ2⟩, ⟨v, σm2⟩, a1, a2, a3, a4, ⟨Y, a5, a6, a7⟩, a8⟩ := series_L h hN hk hs hp hpf hx hy (FC.sI (f.t k2.w6) (by decide)) g hz
  simp only at a3 a4 a6 a7 a8
  subst a6; subst a7
  refine ⟨σ1, σ2, σm2, Y, k1, ?_, ?_, (FC.sI (k2.m (by decide)) (by decide)).t a3, a4, a5, a8⟩
  · rw [F11_sumOfSeries, bnd_eq, a1, bd_some]
  · rw [F12_seriesOf, a2, bd_some]
theorem st_series (h : Rel σC σM) (x1 x2 x3 x4 x5 x6 x7 : Int32) : Stq (F11_series σC x1 x2 x3 x4 x5 x6 x7) (F12_series σM x1 x2 x3 x4 x5 x6 x7) := by
  have o := h.ok5
  have h6 := ok_n6 o
  unfold F11_series F12_series
  rw [bnd_mS, m_isShot, mS_c]
  simp only [Option.bind_some, wi_0, wi_1, isPuffing_w, isSpit_w, isAim_w, isPlace_w, wi_0_8, wi_0_20, wi_0_3, wi_m60_60, wi_m1_1, wi_0_1, wi_m999_999, wi_1_20, wi_1_30, wi_0_99, wi_1_5, wi_0_2, wi_m99_99, wi_1_12, wi_m6_6, wi_0_9999, wi_0_4, wi_1_40]
  by_cases hs : ¬ F11_within x1 0 (gI σM 12 0 5 6 - 1) = true
  · rw [ws_s h _ _ _ _ _ hs]
    simp only [hs, if_false, Bool.false_and, Bool.and_false, Bool.true_and, Bool.and_true, Bool.false_eq_true, if_true, Bool.and_self, ans_eq, ref_eq, agr_eq, den_eq, mref_eq, mno_eq, bd_some, Option.bind_some, ne_2_0, ne_5_0]
    exact ⟨_, _, _, rfl, rfl, h.no 2⟩
  replace hs := Decidable.not_not.mp hs
  by_cases hp : ¬ F11_within x2 0 (gI σM 12 0 5 5 - 1) = true
  · rw [ws_p h _ _ _ _ hs hp]
    simp only [hp, if_false, Bool.false_and, Bool.and_false, Bool.true_and, Bool.and_true, Bool.false_eq_true, if_true, Bool.and_self, ans_eq, ref_eq, agr_eq, den_eq, mref_eq, mno_eq, bd_some, Option.bind_some, ne_2_0, ne_5_0]
    exact ⟨_, _, _, rfl, rfl, h.no 2⟩
  replace hp := Decidable.not_not.mp hp
  obtain ⟨k, hk, rfl⟩ := in_rng (n5_int o) hp
  obtain ⟨s, hk6, rfl⟩ := in_rng (n6_int o) hs
  rw [ws_in h x3 2 x4 x5 hk6 hs hp]
  simp (disch := omega) only [hs, hp, wn_203, mS_c, ix_9, ix_15, ix_21, ix_29, ix_37, ix_45, ix_53, ix_59, ix_65, ix_71, ix_77, ix_83, ix_325, al_0, al_1, al_2, al_3, al_4, al_5, al_6, al_7, al_8, ald_nI, Option.bind_some, bnd_eq, bd_some, if_true, Bool.and_self, Bool.true_and]
  by_cases g1 : ¬ F11_within x3 1 (gI σM 12 0 5 (53 + s)) = true
  · simp only [g1, if_false, Bool.false_and, Bool.and_false, Bool.true_and, Bool.and_true, Bool.false_eq_true, if_true, Bool.and_self, ans_eq, ref_eq, agr_eq, den_eq, mref_eq, mno_eq, bd_some, Option.bind_some, ne_2_0, ne_5_0]
    exact ⟨_, _, _, rfl, rfl, h.no 5⟩
  replace g1 := Decidable.not_not.mp g1
  by_cases g2 : ¬ F11_within x4 (-60) 60 = true
  · simp only [g1, g2, if_false, Bool.false_and, Bool.and_false, Bool.true_and, Bool.and_true, Bool.false_eq_true, if_true, Bool.and_self, ans_eq, ref_eq, agr_eq, den_eq, mref_eq, mno_eq, bd_some, Option.bind_some, ne_2_0, ne_5_0]
    exact ⟨_, _, _, rfl, rfl, h.no 5⟩
  replace g2 := Decidable.not_not.mp g2
  by_cases g3 : ¬ F11_within x5 (-60) 60 = true
  · simp only [g1, g2, g3, if_false, Bool.false_and, Bool.and_false, Bool.true_and, Bool.and_true, Bool.false_eq_true, if_true, Bool.and_self, ans_eq, ref_eq, agr_eq, den_eq, mref_eq, mno_eq, bd_some, Option.bind_some, ne_2_0, ne_5_0]
    exact ⟨_, _, _, rfl, rfl, h.no 5⟩
  replace g3 := Decidable.not_not.mp g3
  by_cases g4 : ¬ F11_within x6 1 30 = true
  · simp only [g1, g2, g3, g4, if_false, Bool.false_and, Bool.and_false, Bool.true_and, Bool.and_true, Bool.false_eq_true, if_true, Bool.and_self, ans_eq, ref_eq, agr_eq, den_eq, mref_eq, mno_eq, bd_some, Option.bind_some, ne_2_0, ne_5_0]
    exact ⟨_, _, _, rfl, rfl, h.no 5⟩
  replace g4 := Decidable.not_not.mp g4
  by_cases g5 : ¬ F11_within x7 1 30 = true
  · simp only [g1, g2, g3, g4, g5, if_false, Bool.false_and, Bool.and_false, Bool.true_and, Bool.and_true, Bool.false_eq_true, if_true, Bool.and_self, ans_eq, ref_eq, agr_eq, den_eq, mref_eq, mno_eq, bd_some, Option.bind_some, ne_2_0, ne_5_0]
    exact ⟨_, _, _, rfl, rfl, h.no 5⟩
  replace g5 := Decidable.not_not.mp g5
  have w6 := wn_int g4
  have w7 := wn_int g5
  have e30 : (30 : Int32).toInt = 30 := rfl
  have e01 : (1 : Int32).toInt = 1 := rfl
  obtain ⟨N, hN, rfl⟩ := i32_ex (x := x6) 30 (by omega) (by omega)
  obtain ⟨K, hK, rfl⟩ := i32_ex (x := x7) 30 (by omega) (by omega)
  rw [nI_int (by omega), e01, e30] at w6 w7
  obtain ⟨σ1, σ2, σm2, Y, a1, a2, a3, a4, a5, a6, a7⟩ := series_both (N := N) (k := K) h (by omega) (by omega) hk6 hk (puff_ok o hk6 g1) (aim_ok g2) (aim_ok g3) FC.z FM.z
  obtain ⟨q1, q2, q3, q4, q5, q6⟩ := zA_q (z := (gI σM 12 0 5, s, k, x3, 2, x4, x5, 0)) ⟨o, hk6, hk, (show 0 ≤ (0 : Int32).toInt ∧ (0 : Int32).toInt ≤ 20 by decide), puff_ok o hk6 g1⟩ rfl
  have hY : N * 360 ≤ 30 * 360 := Nat.mul_le_mul_right 360 hN
  have hqY : 18 / zA (gI σM 12 0 5, s, k, x3, 2, x4, x5, 0) * Y ≤ 9 * 10800 := Nat.mul_le_mul q6 (by omega)
  simp only [g1, g2, g3, g4, g5, a1, a2, a3, a7, if_false, Bool.false_and, Bool.and_false, Bool.true_and, Bool.and_true, Bool.false_eq_true, if_true, Bool.and_self, ans_eq, ref_eq, agr_eq, den_eq, mref_eq, mno_eq, bd_some, Option.bind_some, ne_2_0, ne_5_0]
  generalize zA (gI σM 12 0 5, s, k, x3, 2, x4, x5, 0) = A at *
  have tc : F11_tell σ2 (lN Y) (Int32.toInt64 (nI A)) = some ((), sL (sL σ2 11 0 0 1 (frT Y A)) 11 0 0 2 (frB Y A)) := by
    have := tell_both (σ := σ2) (l := 1) (T := Y) (B := A) (by omega) (by omega) (by omega) q2
    rw [Nat.one_mul, Nat.one_mul] at this
    rw [nI_l (by omega)]; exact this
  have tm : F12_fraction σm2 (lN (18 / A * Y)) 18 = some (true, sL (sL σm2 12 0 0 2 (frT Y A)) 12 0 0 3 (frB Y A)) := by
    have := frac_both (σ := σm2) (T := 18 / A * Y) (B := 18) (by omega) (by omega) (by omega)
    rw [show (18 : Int64) = lN 18 from rfl, this]
    have e : ((18 : Nat) : Int) = ((18 / A : Nat) : Int) * (A : Int) := by rw [← Int.natCast_mul, q1]
    rw [e, Int.natCast_mul, frT_mul (by omega) (by omega), frB_mul (by omega) (by omega)]
  simp only [tc, tm, if_false, Bool.false_and, Bool.and_false, Bool.true_and, Bool.and_true, Bool.false_eq_true, if_true, Bool.and_self, ans_eq, ref_eq, agr_eq, den_eq, mref_eq, mno_eq, bd_some, Option.bind_some, ne_2_0, ne_5_0]
  exact ⟨_, _, _, rfl, rfl, h.tel a4.w26.pcs a5 _ _⟩
/-- the best k so far: its fraction is T by 16 A, the model holds q T -/
def WR (any : Bool) (σ : Mem) (best : Int32) (most : Int64) (A q : Nat) : Prop :=
  (any = false ∧ gB σ 1 0 0 0 = false ∧ best = 0) ∨
  (any = true ∧ gB σ 1 0 0 0 = true ∧ gI σ 1 0 0 1 = best ∧ ¬ best ≤ 0 ∧ ∃ T : Int, -300000 ≤ T ∧ T ≤ 300000 ∧ (gL σ 1 0 0 2).toInt = T ∧ gL σ 1 0 0 3 = lN (16 * A) ∧ most.toInt = q * T)
theorem WR.an {a b : Bool} {best : Int32} {most : Int64} {A q : Nat} (h : WR a σ best most A q) (e : a = b) : WR b σ best most A q := e ▸ h
theorem wipe_L (h : Rel σC σM) {puff : Int32} {N co : Nat} (hN : 1 ≤ N ∧ N ≤ 30) (hco : co ≤ 99) (hs : s < nat (gI σM 12 0 5 6)) (hp : p < nat (gI σM 12 0 5 5)) (hpf : 1 ≤ puff.toInt ∧ puff.toInt ≤ 40)
    (f : FC [0, 1, 2, 6] σC σ) (g : FMS (mS σM) σm) (b : gB σ 1 0 0 0 = false) :
    ∃ (r : Unit × Mem) (q : Int32 × Mem), F11_wipeEvery_L62 (nI s) (nI p) puff (nI N) (nI co) fuelK σ 1 = some r ∧ F12_wipeEvery_L82 (nI s) (nI p) puff (nI N) (nI co) fuelK σm 0 0 1 = some q ∧ FC [0, 1, 2, 6] σC r.2 ∧ FMS (mS σM) q.2 ∧ gI r.2 1 0 0 1 = q.1 := by
  have hx : -60 ≤ (0 : Int32).toInt ∧ (0 : Int32).toInt ≤ 60 := by decide
  obtain ⟨q1, q2, q3, q4, q5, q6⟩ := zA_q (z := (gI σM 12 0 5, s, p, puff, 2, 0, 0, 0)) ⟨h.ok5, hs, hp, (show 0 ≤ (0 : Int32).toInt ∧ (0 : Int32).toInt ≤ 20 by decide), hpf⟩ rfl
  refine loop2 (L1 := fun n (w : Mem × Int32) => F11_wipeEvery_L62 (nI s) (nI p) puff (nI N) (nI co) n w.1 w.2) (L2 := fun n (w : Mem × Int32 × Int64 × Int32) => F12_wipeEvery_L82 (nI s) (nI p) puff (nI N) (nI co) n w.1 w.2.1 w.2.2.1 w.2.2.2) (N := 10)
    (Inv := fun i w v => w.2 = nI i ∧ v.2.2.2 = nI i ∧ 1 ≤ i ∧ FC [0, 1, 2, 6] σC w.1 ∧ FMS (mS σM) v.1 ∧ WR (decide (1 < i)) w.1 v.2.1 v.2.2.1 (zA (gI σM 12 0 5, s, p, puff, 2, 0, 0, 0)) (18 / zA (gI σM 12 0 5, s, p, puff, 2, 0, 0, 0))) ?_ 9 fuelK fuelK 1 (σ, 1) (σm, 0, 0, 1) (by omega) (fuelK_lt (by omega)) (fuelK_lt (by omega)) ⟨rfl, rfl, by omega, f, g, .inl ⟨rfl, b, rfl⟩⟩
  rintro n m i ⟨σ1, x7⟩ ⟨σm1, best, most, x9⟩ hi ⟨e1, e2, e3, f1, g1, b1⟩
  simp only at e1 e2 f1 g1 b1
  subst e1; subst e2
  simp only [F11_wipeEvery_L62.eq_2, F12_wipeEvery_L82.eq_2]
  by_cases e : i = 10
  · subst e
    rw [if_pos (show (9 : Int32) < nI 10 by decide), if_pos (show (10 : Int32) ≤ nI 10 by decide)]
    refine .inl ⟨_, _, rfl, rfl, f1, g1, ?_⟩
    rcases b1 with ⟨b2, -⟩ | ⟨-, -, b3, -⟩
    · exact absurd b2 (by decide)
    · exact b3
  · refine .inr ⟨by omega, ?_⟩
    have hin : ¬ nI i = 0 := nI_ne0 (by omega) (by omega)
    rw [if_neg (show ¬ (9 : Int32) < nI i from nI_nlt (b := i) (a := 9) (by omega) (by omega)), if_neg (show ¬ (10 : Int32) ≤ nI i from nI_ge (a := i) (b := 10) (by omega) (by omega))]
    obtain ⟨τ1, τ2, τm, Y, a1, a2, a3, a4, a5, a6, a7⟩ := series_both (N := N) (k := i) (puff := puff) h hN ⟨e3, by omega⟩ hs hp hpf hx hx f1 g1
    have hA := zA_q (z := (gI σM 12 0 5, s, p, puff, 2, 0, 0, 0)) ⟨h.ok5, hs, hp, (show 0 ≤ (0 : Int32).toInt ∧ (0 : Int32).toInt ≤ 20 by decide), hpf⟩ rfl
    generalize zA (gI σM 12 0 5, s, p, puff, 2, 0, 0, 0) = A at *
    have b2 : gB τ2 1 0 0 0 = gB σ1 1 0 0 0 ∧ gI τ2 1 0 0 1 = gI σ1 1 0 0 1 ∧ gL τ2 1 0 0 2 = gL σ1 1 0 0 2 ∧ gL τ2 1 0 0 3 = gL σ1 1 0 0 3 := by
      refine ⟨?_, ?_, ?_, ?_⟩
      · rw [a4.fB 1 0 0 (by decide)]
      · rw [a4.fI 1 0 0 (by decide)]
      · rw [a4.fL 1 0 0 (by decide)]
      · rw [a4.fL 1 0 0 (by decide)]
    have hd : N / i ≤ 30 := Nat.le_trans (Nat.div_le_self N i) hN.2
    have hY : N * 360 ≤ 30 * 360 := Nat.mul_le_mul_right 360 hN.2
    have hw1 : N / i * co ≤ 30 * 99 := Nat.mul_le_mul hd hco
    have hw : N / i * co * A ≤ 30 * 99 * 18 := Nat.mul_le_mul hw1 q3
    have hqY : 18 / A * Y ≤ 9 * 10800 := Nat.mul_le_mul q6 (by omega)
    have n1 : ((16 : Int64) * lN Y - lN (N / i) * lN co * lN A).toInt = 16 * (Y : Int) - (N / i * co * A : Nat) := by
      rw [show (16 : Int64) = lN 16 from rfl, lN_mul, lN_mul, lN_mul, i64_sub] <;> rw [lN_int (by omega), lN_int (by omega)] <;> omega
    have n2 : (16 : Int64) * lN A = lN (16 * A) := by rw [show (16 : Int64) = lN 16 from rfl, lN_mul]
    have n3 : ((16 : Int64) * lN (18 / A * Y) - 18 * lN co * lN (N / i)).toInt = ((18 / A : Nat) : Int) * (16 * (Y : Int) - (N / i * co * A : Nat)) := by
      have e18 : 18 * co * (N / i) = 18 / A * (N / i * co * A) := by
        rw [show 18 / A * (N / i * co * A) = 18 / A * A * (co * (N / i)) from by rw [Nat.mul_comm (N / i) co, Nat.mul_comm (co * (N / i)) A, Nat.mul_assoc], q1, Nat.mul_assoc]
      have hb : 18 / A * (N / i * co * A) ≤ 9 * (30 * 99 * 18) := Nat.mul_le_mul q6 hw
      rw [show (16 : Int64) = lN 16 from rfl, show (18 : Int64) = lN 18 from rfl, lN_mul, lN_mul, lN_mul, e18, i64_sub] <;> rw [lN_int (by omega), lN_int (by omega)] <;> try omega
      rw [Int.mul_sub, ← Int.mul_assoc, Int.mul_comm _ (16 : Int), Int.mul_assoc]
      omega
    have f2 : FC [0, 1, 2, 6] σC τ2 := f1.t a4.w26
    rw [a1, bd_some, a2, bd_some, if_neg hin, bnd_eq, a3, bd_some, if_neg hin, bnd_eq, a7, pk_div (by omega) (by omega) (by omega), nI_l (show A < 2 ^ 31 by omega), nI_l (show N / i < 2 ^ 31 by omega), nI_l (show co < 2 ^ 31 by omega), n2, nI_1]
    generalize (16 : Int64) * lN Y - lN (N / i) * lN co * lN A = top at *
    generalize (16 : Int64) * lN (18 / A * Y) - 18 * lN co * lN (N / i) = br at *
    have rep : ∃ σ', (bnd (sB τ2 1 0 0 0 true) fun s_5 => bnd (sI s_5 1 0 0 1 (nI i)) fun s_6 => bnd (sL s_6 1 0 0 2 top) fun s_7 => bnd (sL s_7 1 0 0 3 (lN (16 * A))) fun s_8 => some ((), s_8)) = some ((), σ') ∧ FC [1] τ2 σ' ∧ WR true σ' (nI i) br A (18 / A) := by
      simp only [bnd_eq]
      refine ⟨_, rfl, ?_, .inr ⟨rfl, ?_, ?_, nI_nle (by omega) (by omega), 16 * (Y : Int) - (N / i * co * A : Nat), by omega, by omega, ?_, ?_, n3⟩⟩
      · repeat' first | exact FC.z | refine FC.sI ?_ (by decide) | refine FC.sL ?_ (by decide) | refine FC.sB ?_ (by decide)
      · simp (disch := decide) only [rI_s, rI_n, rI_f, rI_a, rI_c, rL_s, rL_n, rL_f, rL_a, rL_c, rB_s, rB_n, rB_a, rR_s, rR_n, gI_sL, gI_sB, gI_sR, gL_sI, gL_sB, gL_sR, gB_sI, gB_sL, gB_sR, gR_sI, gR_sL, gR_sB]
      · simp (disch := decide) only [rI_s, rI_n, rI_f, rI_a, rI_c, rL_s, rL_n, rL_f, rL_a, rL_c, rB_s, rB_n, rB_a, rR_s, rR_n, gI_sL, gI_sB, gI_sR, gL_sI, gL_sB, gL_sR, gB_sI, gB_sL, gB_sR, gR_sI, gR_sL, gR_sB]
      · simp (disch := decide) only [rI_s, rI_n, rI_f, rI_a, rI_c, rL_s, rL_n, rL_f, rL_a, rL_c, rB_s, rB_n, rB_a, rR_s, rR_n, gI_sL, gI_sB, gI_sR, gL_sI, gL_sB, gL_sR, gB_sI, gB_sL, gB_sR, gR_sI, gR_sL, gR_sB]; exact n1
      · simp (disch := decide) only [rI_s, rI_n, rI_f, rI_a, rI_c, rL_s, rL_n, rL_f, rL_a, rL_c, rB_s, rB_n, rB_a, rR_s, rR_n, gI_sL, gI_sB, gI_sR, gL_sI, gL_sB, gL_sR, gB_sI, gB_sL, gB_sR, gR_sI, gR_sL, gR_sB]
    obtain ⟨σ', r1, r2, r3⟩ := rep
    have fr : FC [0, 1, 2, 6] σC σ' := f2.t (r2.m (by decide))
    unfold F1_offer
    rcases b1 with ⟨-, b3, b4⟩ | ⟨-, b3, b4, b5, T, b6, b7, b8, b9, b10⟩
    · rw [b2.1, b3, if_neg (by decide), r1, bd_some, if_pos (show best ≤ 0 by rw [b4]; decide)]
      exact ⟨(_, _), (_, _, _, _), rfl, rfl, rfl, rfl, by omega, fr, a5, r3.an (by simp; omega)⟩
    · rw [b2.1, b3, if_pos rfl, if_neg b5, b2.2.2.1, b2.2.2.2, b9]
      have m0 := lN_int (n := 16 * A) (by omega)
      have c1 : (top * lN (16 * A)).toInt = top.toInt * (16 * A : Nat) := by
        rw [← m0]; apply i64_mul <;> rw [m0, n1]
        · have := Int.mul_le_mul_of_nonneg_right (show (-300000 : Int) ≤ 16 * (Y : Int) - (N / i * co * A : Nat) by omega) (show (0 : Int) ≤ ((16 * A : Nat) : Int) by omega); omega
        · have := Int.mul_le_mul_of_nonneg_right (show 16 * (Y : Int) - (N / i * co * A : Nat) ≤ (300000 : Int) by omega) (show (0 : Int) ≤ ((16 * A : Nat) : Int) by omega); omega
      have c2 : (gL σ1 1 0 0 2 * lN (16 * A)).toInt = T * (16 * A : Nat) := by
        rw [← b8, ← m0]; apply i64_mul <;> rw [m0, b8]
        · have := Int.mul_le_mul_of_nonneg_right b6 (show (0 : Int) ≤ ((16 * A : Nat) : Int) by omega); omega
        · have := Int.mul_le_mul_of_nonneg_right b7 (show (0 : Int) ≤ ((16 * A : Nat) : Int) by omega); omega
      by_cases hc : 16 * (Y : Int) - (N / i * co * A : Nat) ≤ T
      · have d1 : top * lN (16 * A) ≤ gL σ1 1 0 0 2 * lN (16 * A) := by rw [i64_le, c1, c2, n1]; exact Int.mul_le_mul_of_nonneg_right hc (by omega)
        have d2 : ¬ most < br := by
          rw [i64_lt, n3, b10]; exact Int.not_lt.mpr (Int.mul_le_mul_of_nonneg_left hc (by omega))
        rw [if_pos d1, bd_some, if_neg d2]
        exact ⟨(_, _), (_, _, _, _), rfl, rfl, rfl, rfl, by omega, f2, a5, .inr ⟨by simp; omega, b2.1.trans b3, b2.2.1.trans b4, b5, T, b6, b7, by rw [b2.2.2.1, b8], b2.2.2.2.trans b9, b10⟩⟩
      · have d1 : ¬ top * lN (16 * A) ≤ gL σ1 1 0 0 2 * lN (16 * A) := by
          rw [i64_le, c1, c2, n1]; exact Int.not_le.mpr (Int.mul_lt_mul_of_pos_right (by omega) (by omega))
        have d2 : most < br := by
          rw [i64_lt, n3, b10]; exact Int.mul_lt_mul_of_pos_left (by omega) (by omega)
        rw [if_neg d1, r1, bd_some, if_pos d2]
        exact ⟨(_, _), (_, _, _, _), rfl, rfl, rfl, rfl, by omega, fr, a5, r3.an (by simp; omega)⟩
theorem st_wipeEvery (h : Rel σC σM) (x1 x2 x3 x4 x5 : Int32) : Stq (F11_wipeEvery σC x1 x2 x3 x4 x5) (F12_wipeEvery σM x1 x2 x3 x4 x5) := by
  have o := h.ok5
  have h6 := ok_n6 o
  unfold F11_wipeEvery F12_wipeEvery
  rw [bnd_mS, m_isShot, mS_c]
  simp only [Option.bind_some, wi_0, wi_1, isPuffing_w, isSpit_w, isAim_w, isPlace_w, wi_0_8, wi_0_20, wi_0_3, wi_m60_60, wi_m1_1, wi_0_1, wi_m999_999, wi_1_20, wi_1_30, wi_0_99, wi_1_5, wi_0_2, wi_m99_99, wi_1_12, wi_m6_6, wi_0_9999, wi_0_4, wi_1_40]
  by_cases hs : ¬ F11_within x1 0 (gI σM 12 0 5 6 - 1) = true
  · rw [ws_s h _ _ _ _ _ hs]
    simp only [hs, if_false, Bool.false_and, Bool.and_false, Bool.true_and, Bool.and_true, Bool.false_eq_true, if_true, Bool.and_self, ans_eq, ref_eq, agr_eq, den_eq, mref_eq, mno_eq, bd_some, Option.bind_some, ne_2_0, ne_5_0]
    exact ⟨_, _, _, rfl, rfl, h.no 2⟩
  replace hs := Decidable.not_not.mp hs
  by_cases hp : ¬ F11_within x2 0 (gI σM 12 0 5 5 - 1) = true
  · rw [ws_p h _ _ _ _ hs hp]
    simp only [hp, if_false, Bool.false_and, Bool.and_false, Bool.true_and, Bool.and_true, Bool.false_eq_true, if_true, Bool.and_self, ans_eq, ref_eq, agr_eq, den_eq, mref_eq, mno_eq, bd_some, Option.bind_some, ne_2_0, ne_5_0]
    exact ⟨_, _, _, rfl, rfl, h.no 2⟩
  replace hp := Decidable.not_not.mp hp
  obtain ⟨k, hk, rfl⟩ := in_rng (n5_int o) hp
  obtain ⟨s, hk6, rfl⟩ := in_rng (n6_int o) hs
  rw [ws_in h x3 2 0 0 hk6 hs hp]
  simp (disch := omega) only [hs, hp, wn_203, wn_060, mS_c, ix_9, ix_15, ix_21, ix_29, ix_37, ix_45, ix_53, ix_59, ix_65, ix_71, ix_77, ix_83, ix_325, al_0, al_1, al_2, al_3, al_4, al_5, al_6, al_7, al_8, ald_nI, Option.bind_some, bnd_eq, bd_some, if_true, Bool.and_self, Bool.and_true]
  by_cases g1 : ¬ F11_within x3 1 (gI σM 12 0 5 (53 + s)) = true
  · simp only [g1, if_false, Bool.false_and, Bool.and_false, Bool.true_and, Bool.and_true, Bool.false_eq_true, if_true, Bool.and_self, ans_eq, ref_eq, agr_eq, den_eq, mref_eq, mno_eq, bd_some, Option.bind_some, ne_2_0, ne_5_0]
    exact ⟨_, _, _, rfl, rfl, h.no 5⟩
  replace g1 := Decidable.not_not.mp g1
  by_cases g2 : ¬ F11_within x4 1 30 = true
  · simp only [g1, g2, if_false, Bool.false_and, Bool.and_false, Bool.true_and, Bool.and_true, Bool.false_eq_true, if_true, Bool.and_self, ans_eq, ref_eq, agr_eq, den_eq, mref_eq, mno_eq, bd_some, Option.bind_some, ne_2_0, ne_5_0]
    exact ⟨_, _, _, rfl, rfl, h.no 5⟩
  replace g2 := Decidable.not_not.mp g2
  by_cases g3 : ¬ F11_within x5 0 99 = true
  · simp only [g1, g2, g3, if_false, Bool.false_and, Bool.and_false, Bool.true_and, Bool.and_true, Bool.false_eq_true, if_true, Bool.and_self, ans_eq, ref_eq, agr_eq, den_eq, mref_eq, mno_eq, bd_some, Option.bind_some, ne_2_0, ne_5_0]
    exact ⟨_, _, _, rfl, rfl, h.no 5⟩
  replace g3 := Decidable.not_not.mp g3
  have w4 := wn_int g2
  have w5 := wn_int g3
  have e30 : (30 : Int32).toInt = 30 := rfl
  have e01 : (1 : Int32).toInt = 1 := rfl
  have e00 : (0 : Int32).toInt = 0 := rfl
  have e99 : (99 : Int32).toInt = 99 := rfl
  obtain ⟨N, hN, rfl⟩ := i32_ex (x := x4) 30 (by omega) (by omega)
  obtain ⟨co, hco, rfl⟩ := i32_ex (x := x5) 99 (by omega) (by omega)
  rw [nI_int (by omega), e01, e30] at w4
  obtain ⟨σ1, k1, k2, k3⟩ := c_begin (σ := σC)
  obtain ⟨⟨u, σ2⟩, ⟨best, σ3⟩, l1, l2, l3, l4, l5⟩ := wipe_L (N := N) (co := co) h (by omega) hco hk6 hk (puff_ok o hk6 g1) (k2.m (by decide)) (FM.z (σ := mS σM)) k3
  simp only at l3 l4 l5
  simp only [g1, g2, g3, k1, l1, l2, l5, if_false, Bool.false_and, Bool.and_false, Bool.true_and, Bool.and_true, Bool.false_eq_true, if_true, Bool.and_self, ans_eq, ref_eq, agr_eq, den_eq, mref_eq, mno_eq, bd_some, Option.bind_some, ne_2_0, ne_5_0]
  exact ⟨_, _, _, rfl, rfl, h.ans l3.pcs l4⟩
end SER
