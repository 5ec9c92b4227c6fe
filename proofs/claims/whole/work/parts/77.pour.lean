/-! PURE. pour, feed. -/
section POU
variable {σC σM σC1 σM1 σ τ : Mem}
/-- what is poured: the first k, or the last k, of n numbers from S on have come to D -/
def cpy (N : Nat → Int64) (S D n : Nat) (done : Nat → Bool) : Nat → Int64 := fun u => if D ≤ u ∧ u < D + n ∧ done (u - D) = true then N (S + (u - D)) else N u
theorem m_pourL {t t' i j n : Nat} (ht : t < 4) (ht' : t' < 4) (hi : i + n ≤ 60) (hj : j + n ≤ 60) (z : Bool) (hz : z = decide (i < j)) :
    ∃ r, F12_pour_L158 (nI t) (nI i) (nI t') (nI j) (nI n) z fuelK τ 0 = some r ∧ r.2 = sLf τ 12 0 3 (cpy (gL τ 12 0 3) (60 * t + i) (60 * t' + j) n (fun _ => true)) := by
  have step : ∀ (f : Nat → Int64) (dn dn' : Nat → Bool) (q : Nat) (rc : Mem → Int32 → Option (Unit × Mem)) (x7 : Int32), q < n → f = cpy (gL τ 12 0 3) (60 * t + i) (60 * t' + j) n dn → (∀ m, m < n → dn' m = (dn m || decide (m = q))) → (∀ m, m < n → dn m = true → 60 * t' + j + m ≠ 60 * t + i + q) →
      F12_pour_p182 rc (sLf τ 12 0 3 f) (nI t) (nI i) (nI t') (nI j) (nI n) z x7 (nI q) = rc (sLf τ 12 0 3 (cpy (gL τ 12 0 3) (60 * t + i) (60 * t' + j) n dn')) (x7 + 1) := by
    intro f dn dn' q rc x7 hq hf hd hn
    subst hf
    unfold F12_pour_p182
    rw [ix60, ix60, nI_add, nI_add, rL_f, ald_nI (by omega) (by omega), Option.bind_some, chk_nI (by omega) (by omega), bnd_eq, cl_nI (by omega)]
    simp only [sLf_sLf, rL_f]
    congr 2
    funext u
    rw [updL_eq]
    have rd : cpy (gL τ 12 0 3) (60 * t + i) (60 * t' + j) n dn (60 * t + i + q) = gL τ 12 0 3 (60 * t + i + q) := by
      unfold cpy
      rw [if_neg]
      rintro ⟨c1, c2, c3⟩
      exact hn (60 * t + i + q - (60 * t' + j)) (by omega) c3 (by omega)
    rw [rd]
    unfold cpy
    by_cases e : u = 60 * t' + j + q
    · subst e
      rw [if_pos rfl, if_pos ⟨by omega, by omega, by rw [hd _ (by omega)]; simp⟩, show 60 * t' + j + q - (60 * t' + j) = q by omega]
    · rw [if_neg e]
      by_cases c : 60 * t' + j ≤ u ∧ u < 60 * t' + j + n
      · have e2 : dn' (u - (60 * t' + j)) = dn (u - (60 * t' + j)) := by
          rw [hd _ (by omega), decide_eq_false (show ¬ u - (60 * t' + j) = q by omega), Bool.or_false]
        rw [e2]
      · rw [if_neg (fun c2 => c ⟨c2.1, c2.2.1⟩), if_neg (fun c2 => c ⟨c2.1, c2.2.1⟩)]
  have key : ∃ r, F12_pour_L158 (nI t) (nI i) (nI t') (nI j) (nI n) z fuelK τ 0 = some r ∧ r.2 = sLf τ 12 0 3 (cpy (gL τ 12 0 3) (60 * t + i) (60 * t' + j) n (fun m => if z = true then decide (n - n ≤ m) else decide (m < n))) := by
    refine loopG (L := fun m (w : Mem × Int32) => F12_pour_L158 (nI t) (nI i) (nI t') (nI j) (nI n) z m w.1 w.2) (N := n)
      (Inv := fun k w => w.2 = nI k ∧ w.1 = sLf τ 12 0 3 (cpy (gL τ 12 0 3) (60 * t + i) (60 * t' + j) n (fun m => if z = true then decide (n - k ≤ m) else decide (m < k)))) ?_ n fuelK 0 (τ, 0) (by omega) (fuelK_lt (by omega)) ⟨rfl, ?_⟩
    · rintro m k ⟨τ1, w⟩ hk ⟨e1, e2⟩
      simp only at e1 e2
      subst e1; subst e2
      simp only [F12_pour_L158.eq_2]
      by_cases e : k = n
      · subst e
        exact .inl ⟨_, by rw [if_pos (Int32.le_refl _)], rfl⟩
      · refine .inr ⟨by omega, ?_⟩
        rw [if_neg (nI_ge (by omega) (by omega))]
        cases z with
        | true =>
          have hij : i < j := by simpa using hz.symm
          have es : nI n - 1 - nI k = nI (n - 1 - k) := by
            rw [show (1 : Int32) = nI 1 from rfl, pk_sub (by omega), pk_sub (by omega)]
          rw [if_pos rfl, es, step _ (fun m => if true = true then decide (n - k ≤ m) else decide (m < k)) (fun m => if true = true then decide (n - (k + 1) ≤ m) else decide (m < k + 1)) (n - 1 - k) _ _ (by omega) rfl ?_ ?_, nI_1]
          · exact ⟨(_, nI (k + 1)), rfl, rfl, rfl⟩
          · intro m hm
            simp only [if_true]
            by_cases c1 : n - k ≤ m
            · simp [c1, show n - (k + 1) ≤ m by omega]
            · by_cases c2 : m = n - 1 - k
              · simp [c2, show n - (k + 1) ≤ n - 1 - k by omega]
              · simp [c1, c2, show ¬ n - (k + 1) ≤ m by omega]
          · intro m hm hd
            simp only [if_true, decide_eq_true_eq] at hd
            by_cases c : t = t'
            · omega
            · omega
        | false =>
          have hij : ¬ i < j := by simpa using hz.symm
          rw [if_neg (by decide), step _ (fun m => if false = true then decide (n - k ≤ m) else decide (m < k)) (fun m => if false = true then decide (n - (k + 1) ≤ m) else decide (m < k + 1)) k _ _ (by omega) rfl ?_ ?_, nI_1]
          · exact ⟨(_, nI (k + 1)), rfl, rfl, rfl⟩
          · intro m hm
            simp only [Bool.false_eq_true, if_false]
            by_cases c1 : m < k
            · simp [c1, show m < k + 1 by omega]
            · by_cases c2 : m = k
              · simp [c2]
              · simp [c1, c2, show ¬ m < k + 1 by omega]
          · intro m hm hd
            simp only [Bool.false_eq_true, if_false, decide_eq_true_eq] at hd
            by_cases c : t = t'
            · omega
            · omega
    · have : cpy (gL τ 12 0 3) (60 * t + i) (60 * t' + j) n (fun m => if z = true then decide (n - 0 ≤ m) else decide (m < 0)) = gL τ 12 0 3 := by
        funext u
        unfold cpy
        rw [if_neg]
        rintro ⟨c1, c2, c3⟩
        cases z with
        | true => simp only [if_true, decide_eq_true_eq] at c3; omega
        | false => simp only [Bool.false_eq_true, if_false, decide_eq_true_eq] at c3; omega
      rw [this]; exact sLf_self.symm
  obtain ⟨r, k1, k2⟩ := key
  refine ⟨r, k1, ?_⟩
  rw [k2]
  congr 1
  funext u
  unfold cpy
  by_cases c : 60 * t' + j ≤ u ∧ u < 60 * t' + j + n
  · have : (if z = true then decide (n - n ≤ u - (60 * t' + j)) else decide (u - (60 * t' + j) < n)) = true := by
      cases z <;> simp <;> omega
    rw [if_pos ⟨c.1, c.2, this⟩, if_pos ⟨c.1, c.2, rfl⟩]
  · rw [if_neg (fun c2 => c ⟨c2.1, c2.2.1⟩), if_neg (fun c2 => c ⟨c2.1, c2.2.1⟩)]
theorem st_pour (h : Rel σC σM) (x1 x2 x3 x4 x5 : Int32) : Stq (F11_pour σC x1 x2 x3 x4 x5) (F12_pour σM x1 x2 x3 x4 x5) := by
  have t1 : gI (mS σM) 12 0 1 = gI σM 12 0 1 := by simp (disch := decide) only [rI_c]
  have t2 : gI (mS σM) 12 0 2 = gI σM 12 0 2 := by simp (disch := decide) only [rI_c]
  have e0 : (0 : Int32).toInt = 0 := rfl
  unfold F11_pour F12_pour
  rw [bnd_mS, isTray_w, isTray_w, t1, t2]
  by_cases g1 : ¬ F11_within x1 0 3 = true
  · simp only [g1, ↓reduceIte, if_false, Bool.false_and, Bool.and_false, Bool.true_and, Bool.and_true, Bool.false_eq_true, if_true, Bool.and_self, ans_eq, ref_eq, agr_eq, den_eq, mref_eq, mno_eq, bd_some, Option.bind_some, ne_2_0, ne_5_0]
    rcases not_tray g1 with q | ⟨q1, q2⟩
    · simp only [q, ↓reduceIte, if_false, Bool.false_and, Bool.and_false, Bool.true_and, Bool.and_true, Bool.false_eq_true, if_true, Bool.and_self, ans_eq, ref_eq, agr_eq, den_eq, mref_eq, mno_eq, bd_some, Option.bind_some, ne_2_0, ne_5_0]
      exact ⟨_, _, _, rfl, rfl, h.no 1⟩
    · simp only [q1, q2, ↓reduceIte, if_false, Bool.false_and, Bool.and_false, Bool.true_and, Bool.and_true, Bool.false_eq_true, if_true, Bool.and_self, ans_eq, ref_eq, agr_eq, den_eq, mref_eq, mno_eq, bd_some, Option.bind_some, ne_2_0, ne_5_0]
      exact ⟨_, _, _, rfl, rfl, h.no 1⟩
  replace g1 := Decidable.not_not.mp g1
  obtain ⟨t, ht, rfl⟩ := in_tray g1
  obtain ⟨i1, i2, -, -⟩ := tray_in ht
  rw [if_pos g1, if_neg i1, if_neg i2]
  by_cases g2 : ¬ F11_within x3 0 3 = true
  · simp only [g2, ↓reduceIte, if_false, Bool.false_and, Bool.and_false, Bool.true_and, Bool.and_true, Bool.false_eq_true, if_true, Bool.and_self, ans_eq, ref_eq, agr_eq, den_eq, mref_eq, mno_eq, bd_some, Option.bind_some, ne_2_0, ne_5_0]
    rcases not_tray g2 with q | ⟨q1, q2⟩
    · simp only [q, ↓reduceIte, if_false, Bool.false_and, Bool.and_false, Bool.true_and, Bool.and_true, Bool.false_eq_true, if_true, Bool.and_self, ans_eq, ref_eq, agr_eq, den_eq, mref_eq, mno_eq, bd_some, Option.bind_some, ne_2_0, ne_5_0]
      exact ⟨_, _, _, rfl, rfl, h.no 1⟩
    · have q3 : ¬ x3 < 4 := Int32.not_lt.mpr q2
      simp only [q1, q3, ↓reduceIte, if_false, Bool.false_and, Bool.and_false, Bool.true_and, Bool.and_true, Bool.false_eq_true, if_true, Bool.and_self, ans_eq, ref_eq, agr_eq, den_eq, mref_eq, mno_eq, bd_some, Option.bind_some, ne_2_0, ne_5_0]
      exact ⟨_, _, _, rfl, rfl, h.no 1⟩
  replace g2 := Decidable.not_not.mp g2
  obtain ⟨t', ht', rfl⟩ := in_tray g2
  obtain ⟨j1, -, j3, -⟩ := tray_in ht'
  rw [if_pos g2, if_neg j1, if_pos j3]
  have a4 : ∀ {β : Type} (f : Nat → β), ald 4 f (nI t) = some (f t) := fun f => ald_nI (by omega) (by omega)
  have a4' : ∀ {β : Type} (f : Nat → β), ald 4 f (nI t') = some (f t') := fun f => ald_nI (by omega) (by omega)
  simp (maxSteps := 3000000) only [a4, a4', Option.bind_some, id]
  rcases h.tray ht with ⟨q1, q2⟩ | ⟨M, tr⟩
  · have n1 : (-1 : Int32) < 0 := by decide
    simp only [q1, q2, n1, ↓reduceIte, if_false, Bool.false_and, Bool.and_false, Bool.true_and, Bool.and_true, Bool.false_eq_true, if_true, Bool.and_self, ans_eq, ref_eq, agr_eq, den_eq, mref_eq, mno_eq, bd_some, Option.bind_some, ne_2_0, ne_5_0]
    exact ⟨_, _, _, rfl, rfl, h.no 3⟩
  have hM := tr.2.2.2.2.1
  have p1 : ¬ nI M < 0 := nI_pos (by omega)
  rcases h.tray ht' with ⟨q1, q2⟩ | ⟨M', tr'⟩
  · have n1 : ¬ (0 : Int32) ≤ -1 := by decide
    simp only [tr.1, tr.2.2.2.1, p1, q1, q2, n1, ↓reduceIte, if_false, Bool.false_and, Bool.and_false, Bool.true_and, Bool.and_true, Bool.false_eq_true, if_true, Bool.and_self, ans_eq, ref_eq, agr_eq, den_eq, mref_eq, mno_eq, bd_some, Option.bind_some, ne_2_0, ne_5_0]
    exact ⟨_, _, _, rfl, rfl, h.no 3⟩
  have hM' := tr'.2.2.2.2.1
  have p2 : 0 ≤ nI M' := nI_pos' (by omega)
  by_cases g3 : ¬ gI σM 12 0 1 t = gI σM 12 0 1 t'
  · simp only [tr.1, tr'.1, tr.2.1, tr'.2.1, tr.2.2.2.1, tr'.2.2.2.1, p1, p2, g3, ↓reduceIte, if_false, Bool.false_and, Bool.and_false, Bool.true_and, Bool.and_true, Bool.false_eq_true, if_true, Bool.and_self, ans_eq, ref_eq, agr_eq, den_eq, mref_eq, mno_eq, bd_some, Option.bind_some, ne_2_0, ne_5_0]
    exact ⟨_, _, _, rfl, rfl, h.no 11⟩
  replace g3 := Decidable.not_not.mp g3
  by_cases g4 : ¬ 0 ≤ x5
  · simp only [tr.1, tr'.1, tr.2.1, tr'.2.1, tr.2.2.2.1, tr'.2.2.2.1, p1, p2, g3, g4, ↓reduceIte, if_false, Bool.false_and, Bool.and_false, Bool.true_and, Bool.and_true, Bool.false_eq_true, if_true, Bool.and_self, ans_eq, ref_eq, agr_eq, den_eq, mref_eq, mno_eq, bd_some, Option.bind_some, ne_2_0, ne_5_0]
    exact ⟨_, _, _, rfl, rfl, h.no 6⟩
  replace g4 := Decidable.not_not.mp g4
  have f4 := i32_le.mp g4
  have hf := hasFrom_iff (σ := σC) (x := x2) (n := x5) tr.2.2.1 hM
  have hf' := hasFrom_iff (σ := σC) (x := x4) (n := x5) tr'.2.2.1 hM'
  have b5 := x5.toInt_lt
  have b2 := x2.toInt_lt
  have b4 := x4.toInt_lt
  have l2 := x2.le_toInt
  have l4 := x4.le_toInt
  have eM := nI_int (n := M) (by omega)
  have eM' := nI_int (n := M') (by omega)
  have sum2 : (x2.toInt64 + x5.toInt64).toInt = x2.toInt + x5.toInt := by rw [i64_add] <;> rw [i64_of32, i64_of32] <;> omega
  have sum4 : (x4.toInt64 + x5.toInt64).toInt = x4.toInt + x5.toInt := by rw [i64_add] <;> rw [i64_of32, i64_of32] <;> omega
  by_cases g5 : 0 ≤ x2.toInt ∧ x2.toInt + x5.toInt ≤ M ∧ 0 ≤ x4.toInt ∧ x4.toInt + x5.toInt ≤ M'
  · obtain ⟨a1, a2, a3, a4⟩ := g5
    have k1 : F10_hasFrom σC t x2 x5 = true := hf.mpr (by omega)
    have k2 : F10_hasFrom σC t' x4 x5 = true := hf'.mpr (by omega)
    obtain ⟨i, hi, rfl⟩ := i32_ex (x := x2) 60 a1 (by omega)
    obtain ⟨j, hj, rfl⟩ := i32_ex (x := x4) 60 a3 (by omega)
    obtain ⟨n, hn, rfl⟩ := i32_ex (x := x5) 60 (by omega) (by omega)
    rw [nI_int (by omega)] at a1 a2 a3 a4
    rw [nI_int (by omega)] at a2 a4
    have m1 : ¬ nI i < 0 := nI_pos (by omega)
    have m2 : ¬ nI j < 0 := nI_pos (by omega)
    have m3 : ¬ (nI M).toInt64 < (nI i).toInt64 + (nI n).toInt64 := by rw [i64_lt, sum2, i64_of32, eM, nI_int (by omega), nI_int (by omega)]; omega
    have m4 : (nI j).toInt64 + (nI n).toInt64 ≤ (nI M').toInt64 := by rw [i64_le, sum4, i64_of32, eM', nI_int (by omega), nI_int (by omega)]; omega
    have hw : (if nI j ≤ nI i then (bd (F12_pour_L158 (nI t) (nI i) (nI t') (nI j) (nI n) false fuelK (mS σM) 0) fun r_25 s_26 => some (true, s_26)) else (bd (F12_pour_L158 (nI t) (nI i) (nI t') (nI j) (nI n) true fuelK (mS σM) 0) fun r_27 s_28 => some (true, s_28))) = some (true, sLf (mS σM) 12 0 3 (cpy (gL (mS σM) 12 0 3) (60 * t + i) (60 * t' + j) n (fun _ => true))) := by
      by_cases c : j ≤ i
      · obtain ⟨⟨u, r⟩, r1, r2⟩ := m_pourL (τ := mS σM) ht ht' (i := i) (j := j) (n := n) (by omega) (by omega) false (by simp; omega)
        simp only at r2
        rw [if_pos (nI_le (by omega) (by omega)), r1, bd_some, r2]
      · obtain ⟨⟨u, r⟩, r1, r2⟩ := m_pourL (τ := mS σM) ht ht' (i := i) (j := j) (n := n) (by omega) (by omega) true (by simp; omega)
        simp only at r2
        rw [if_neg (nI_ge (by omega) (by omega)), r1, bd_some, r2]
    simp only [tr.1, tr'.1, tr.2.1, tr'.2.1, tr.2.2.2.1, tr'.2.2.2.1, p1, p2, g3, g4, k1, k2, m1, m2, m3, m4, ↓reduceIte, if_true, if_false]
    rw [hw]
    have ck : ∀ {γ : Type} (e : Option γ), chkC 60 60 (nI i) (nI j) (nI n) e = e := fun e => by
      unfold chkC
      rw [if_neg]
      rw [cl_nI (by omega), cl_nI (by omega), cl_nI (by omega)]
      rintro (c | c | c | c | c)
      · exact m1 c
      · exact m2 c
      · exact nI_pos (by omega) c
      · omega
      · omega
    rw [ck, bnd_eq, agr_eq, bd_some, cl_nI (by omega), cl_nI (by omega), cl_nI (by omega)]
    refine ⟨_, _, _, rfl, rfl, h.tr ?_ ?_ (fun u hu => ?_) ?_⟩
    · repeat' first | exact FC.z | refine FC.sI ?_ (by decide) | refine FC.sL ?_ (by decide) | refine FC.sB ?_ (by decide)
    · repeat' first | exact FM.z | refine FM.sI ?_ (by decide) | refine FM.sL ?_ (by decide) | refine FM.sP ?_ (by decide) (by decide) | refine FM.sPL ?_ (by decide) (by decide)
    · have z1 : gI (sLf (mS σM) 12 0 3 (cpy (gL (mS σM) 12 0 3) (60 * t + i) (60 * t' + j) n (fun _ => true))) 12 0 1 = gI σM 12 0 1 := by rw [gI_sL]; exact t1
      have z2 : gI (sLf (mS σM) 12 0 3 (cpy (gL (mS σM) 12 0 3) (60 * t + i) (60 * t' + j) n (fun _ => true))) 12 0 2 = gI σM 12 0 2 := by rw [gI_sL]; exact t2
      rw [z1, z2, gB_sL, gI_sL, rL_f]
      rcases h.1.1 u hu with r | ⟨r1, r2, r3, r4, r5, r6⟩
      · exact .inl r
      · refine .inr ⟨r1, r2, r3, r4, r5, fun k hk => ?_⟩
        have nn := nat_i (gI σM 12 0 2 u)
        have bb := i32_le.mp r5
        have e60 : (60 : Int32).toInt = 60 := rfl
        have org : ∀ v, gL (mS σM) 12 0 3 v = gL σM 12 0 3 v := fun v => rfl
        by_cases e : u = t'
        · subst e
          rw [rL_f]
          unfold cpy
          by_cases c : j ≤ k ∧ k < j + n
          · rw [pk_cpy_in c.1 c.2, if_pos ⟨by omega, by omega, rfl⟩, org, show 60 * t + i + (60 * u + k - (60 * u + j)) = 60 * t + (i + (k - j)) by omega]
            exact tr.2.2.2.2.2 _ (by omega)
          · rw [pk_cpy_out (by omega), if_neg (fun c2 => c ⟨by omega, by omega⟩), org, r6 k hk]
        · have : gL (sLf σC 10 t' 1 (va_cpy (gL σC 10 t 1) (gL σC 10 t' 1) i j n)) 10 u 1 k = gL σC 10 u 1 k := by simp [gL_sL, e]
          rw [this, r6 k hk]
          unfold cpy
          rw [if_neg (by rintro ⟨c1, c2, -⟩; omega)]; rfl
    · simp (disch := decide) only [rI_s, rI_n, rI_f, rI_a, rI_c, rL_s, rL_n, rL_f, rL_a, rL_c, rB_s, rB_n, rB_a, rR_s, rR_n, gI_sL, gI_sB, gI_sR, gL_sI, gL_sB, gL_sR, gB_sI, gB_sL, gB_sR, gR_sI, gR_sL, gR_sB]
  · -- one of the four fails
    have hm : (if x2 < 0 then (bd (F12_no (mS σM) 4) fun v_15 s_16 => some (v_15, s_16)) else (if x4 < 0 then (bd (F12_no (mS σM) 4) fun v_17 s_18 => some (v_17, s_18)) else (if (nI M).toInt64 < x2.toInt64 + x5.toInt64 then (bd (F12_no (mS σM) 4) fun v_20 s_21 => some (v_20, s_21)) else (if x4.toInt64 + x5.toInt64 ≤ (nI M').toInt64 then (if x4 ≤ x2 then (bd (F12_pour_L158 (nI t) x2 (nI t') x4 x5 false fuelK (mS σM) 0) fun r_25 s_26 => some (true, s_26)) else (bd (F12_pour_L158 (nI t) x2 (nI t') x4 x5 true fuelK (mS σM) 0) fun r_27 s_28 => some (true, s_28))) else (bd (F12_no (mS σM) 4) fun v_29 s_30 => some (v_29, s_30)))))) = some (false, sI (mS σM) 12 0 0 0 4) := by
      by_cases c1 : x2 < 0
      · rw [if_pos c1]; rfl
      by_cases c2 : x4 < 0
      · rw [if_neg c1, if_pos c2]; rfl
      by_cases c3 : (nI M).toInt64 < x2.toInt64 + x5.toInt64
      · rw [if_neg c1, if_neg c2, if_pos c3]; rfl
      have q1 : ¬ x2.toInt < (0 : Int32).toInt := fun e => c1 (i32_lt.mpr e)
      have q2 : ¬ x4.toInt < (0 : Int32).toInt := fun e => c2 (i32_lt.mpr e)
      rw [i64_lt, sum2, i64_of32, eM] at c3
      have c4 : ¬ x4.toInt64 + x5.toInt64 ≤ (nI M').toInt64 := by rw [i64_le, sum4, i64_of32, eM']; omega
      rw [if_neg c1, if_neg c2, if_neg (by rw [i64_lt, sum2, i64_of32, eM]; exact c3), if_neg c4]; rfl
    have hcl : (if F10_hasFrom σC t x2 x5 = true then (if F10_hasFrom σC t' x4 x5 = true then (chkC 60 60 x2 x4 x5 <| bnd (sLf σC 10 t' 1 (va_cpy (gL σC 10 t 1) (gL σC 10 t' 1) (Int32.toNatClampNeg x2) (Int32.toNatClampNeg x4) (Int32.toNatClampNeg x5))) fun s_9 => bd (F11_agree s_9) fun v_10 s_11 => some (v_10, s_11)) else (bd (F11_deny σC 4) fun v_12 s_13 => some (v_12, s_13))) else (bd (F11_deny σC 4) fun v_7 s_8 => some (v_7, s_8))) = some (false, cS σC 4) := by
      by_cases c1 : F10_hasFrom σC t x2 x5 = true
      · have := hf.mp c1
        have c2 : ¬ F10_hasFrom σC t' x4 x5 = true := fun e => g5 (by have := hf'.mp e; omega)
        rw [if_pos c1, if_neg c2]; rfl
      · rw [if_neg c1]; rfl
    simp only [tr.1, tr'.1, tr.2.1, tr'.2.1, tr.2.2.2.1, tr'.2.2.2.1, p1, p2, g3, g4, ↓reduceIte, if_true, if_false]
    rw [hm, hcl]
    exact ⟨_, _, _, rfl, rfl, h.no 4⟩
end POU
