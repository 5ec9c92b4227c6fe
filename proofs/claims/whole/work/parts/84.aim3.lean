/-! PURE. bestAim, whole. -/
section AIC
variable {σC σM σ σm : Mem} {p s t : Nat} {c : Nat → Int32} {puff beat sp : Int32}
theorem AimS.row (h : AimS σ t (zOO c s p puff beat sp)) {σ1 : Mem} (f : FC [0, 1] σ σ1) : AimS σ1 t (zOO c s p puff beat sp) := h.fc f
theorem lead_L (hz : ShOk (zOO c s p puff beat sp)) (hf : sFate c p puff sp = 0) (ha : AimS σ t (zOO c s p puff beat sp)) (h0 : ∀ j, j < 41 → gI σ 0 0 1 j = 0) (x5 : Int32) :
    ∃ r, F0_search_L71 t 0 (nI (zN (zOO c s p puff beat sp))) x5 fuelK σ (-nI (zN (zOO c s p puff beat sp))) = some r ∧ FC [0] σ r.2 ∧ ∀ j, j < 41 → gI r.2 0 0 1 j = nI (su (2 * zN (zOO c s p puff beat sp)) (fun a => colT (zOO c s p puff beat sp) (xa (zN (zOO c s p puff beat sp)) 0 a) j)) := by
  have hn := (zN_le hz).1
  refine loopG (L := fun m (w : Mem × Int32) => F0_search_L71 t 0 (nI (zN (zOO c s p puff beat sp))) x5 m w.1 w.2) (N := 2 * zN (zOO c s p puff beat sp))
    (Inv := fun k w => w.2 = nI k - nI (zN (zOO c s p puff beat sp)) ∧ FC [0] σ w.1 ∧ ∀ j, j < 41 → gI w.1 0 0 1 j = nI (su k (fun a => colT (zOO c s p puff beat sp) (xa (zN (zOO c s p puff beat sp)) 0 a) j))) ?_ (2 * zN (zOO c s p puff beat sp)) fuelK 0 (σ, -nI (zN (zOO c s p puff beat sp))) (by omega) (fuelK_lt (by omega)) ⟨neg_0 _, FC.z, fun j hj => h0 j hj⟩
  rintro m k ⟨σ1, w⟩ hk ⟨e1, f1, e2⟩
  simp only at e1 f1 e2
  subst e1
  simp only [F0_search_L71.eq_2]
  have lt : nI (zN (zOO c s p puff beat sp)) ≤ nI k - nI (zN (zOO c s p puff beat sp)) ↔ k = 2 * zN (zOO c s p puff beat sp) := by
    rw [i32_le, sub_int (by omega) (by omega), nI_int (by omega)]; omega
  by_cases e : k = 2 * zN (zOO c s p puff beat sp)
  · rw [if_pos (lt.mpr e)]
    subst e
    exact .inl ⟨_, rfl, f1, e2⟩
  · refine .inr ⟨by omega, ?_⟩
    rw [if_neg (fun e3 => e (lt.mp e3))]
    obtain ⟨σ2, a1, a2, a3⟩ := c_addColumns hz hf (ha.fc (f1.m (by decide))) (nI k - nI (zN (zOO c s p puff beat sp)) - 20) 1
    rw [a1, bd_some, sub_next]
    refine ⟨(σ2, nI (k + 1) - nI (zN (zOO c s p puff beat sp))), rfl, rfl, f1.t a2, fun j hj => ?_⟩
    rw [a3 j hj, e2 j hj, su_s, Int32.one_mul, nI_add]
    have ex : nI k - nI (zN (zOO c s p puff beat sp)) - 20 = xa (zN (zOO c s p puff beat sp)) 0 k := by unfold xa; rw [nI_z]; grind
    rw [ex]
theorem aim_all (hz : ShOk (zOO c s p puff beat sp)) (hc7 : c 7 = sp) (hf : sFate c p puff sp = 0) (ha : AimS σ t (zOO c s p puff beat sp)) {x5 : Int32} (b : BestR false σ σm (nI 840)) (g : FMS (mS σM) σm) (hc : gI σM 12 0 5 = c)
    (h0 : ∀ j, j < 41 → gI σ 0 0 1 j = nI (su (2 * zN (zOO c s p puff beat sp)) (fun a => colT (zOO c s p puff beat sp) (xa (zN (zOO c s p puff beat sp)) 0 a) j))) :
    ∃ (r : Unit × Mem) (q : Int32 × Mem), F0_search_L101 t 0 (nI (zN (zOO c s p puff beat sp))) (nI (zA (zOO c s p puff beat sp))) fuelK σ 0 = some r ∧ F12_bestAim_L82 (nI s) (nI p) puff beat x5 fuelK σm (pick x5 840) (-20) = some q ∧
      FC [0, 1] σ r.2 ∧ FMS (mS σM) q.2 ∧ ∃ B', B' < 1681 ∧ BestR true r.2 q.2 (nI B') ∧ q.1 = pick x5 B' := by
  have hn := (zN_le hz).1
  refine loop2 (L1 := fun n (w : Mem × Int32) => F0_search_L101 t 0 (nI (zN (zOO c s p puff beat sp))) (nI (zA (zOO c s p puff beat sp))) n w.1 w.2) (L2 := fun n (w : Mem × Int32 × Int32) => F12_bestAim_L82 (nI s) (nI p) puff beat x5 n w.1 w.2.1 w.2.2) (N := 41)
    (Inv := fun i w v => w.2 = nI i ∧ v.2.2 = nI i - 20 ∧ FC [0, 1] σ w.1 ∧ FMS (mS σM) v.1 ∧ (∀ j, j < 41 → gI w.1 0 0 1 j = nI (su (2 * zN (zOO c s p puff beat sp)) (fun a => colT (zOO c s p puff beat sp) (xa (zN (zOO c s p puff beat sp)) i a) j))) ∧ ∃ B', B' < 1681 ∧ BestR (decide (0 < i)) w.1 v.1 (nI B') ∧ v.2.1 = pick x5 B') ?_ 41 fuelK fuelK 0 (σ, 0) (σm, pick x5 840, -20) (by omega) (fuelK_lt (by omega)) (fuelK_lt (by omega)) ⟨rfl, rfl, FC.z, g, h0, 840, by omega, b, rfl⟩
  rintro n m i ⟨σ1, x8⟩ ⟨σm1, x6, x8m⟩ hi ⟨e1, e2, f1, g1, s1, B1, hB1, b1, e3⟩
  simp only at e1 e2 f1 g1 s1 b1 e3
  subst e1; subst e2; subst e3
  simp only [F0_search_L101.eq_2, F12_bestAim_L82.eq_2]
  by_cases e : i = 41
  · subst e
    rw [if_pos (show (41 : Int32) ≤ nI 41 from Int32.le_refl _), if_pos ((aim_lt (by omega)).mpr rfl)]
    exact .inl ⟨_, _, rfl, rfl, f1, g1, B1, hB1, b1.an (by simp), rfl⟩
  · refine .inr ⟨by omega, ?_⟩
    rw [if_neg (show ¬ (41 : Int32) ≤ nI i from nI_ge (a := i) (b := 41) (by omega) (by omega)), if_neg (fun e2 => e ((aim_lt (by omega)).mp e2)), bnd_eq]
    obtain ⟨σ2, a1, a2, a3⟩ := c_addColumns hz hf (ha.fc f1) (nI i - 20 + nI (zN (zOO c s p puff beat sp))) 1
    have ex : nI i - 20 + nI (zN (zOO c s p puff beat sp)) = xa (zN (zOO c s p puff beat sp)) i (2 * zN (zOO c s p puff beat sp)) := by
      unfold xa; rw [show 2 * zN (zOO c s p puff beat sp) = zN (zOO c s p puff beat sp) + zN (zOO c s p puff beat sp) by omega, ← nI_add]; grind
    have ey : nI i - 20 - nI (zN (zOO c s p puff beat sp)) = xa (zN (zOO c s p puff beat sp)) i 0 := by
      unfold xa; rw [nI_z]; grind
    have s2 : ∀ j, j < 41 → gI σ2 0 0 1 j = nI (su (2 * zN (zOO c s p puff beat sp) + 1) (fun a => colT (zOO c s p puff beat sp) (xa (zN (zOO c s p puff beat sp)) i a) j)) := fun j hj => by
      rw [a3 j hj, s1 j hj, su_s, Int32.one_mul, nI_add, ex]
    obtain ⟨⟨u3, σ3⟩, ⟨q3, σm3⟩, d1, d2, d3, d4, B', d5, d6, d7⟩ := aim_row (t := t) (x7' := nI i - 20) (x5 := x5) hz hc7 hf (i := i) (by omega) rfl hB1 (b1.fc a2 (by decide) (FM.z (i := []) (q := []))) g1 hc (fun j hj => by rw [s2 j hj]; exact congrArg nI (colT_sum hf i j))
    simp only at d3 d4 d6 d7
    subst d7
    have f3 : FC [0, 1] σ σ3 := f1.t ((a2.m (by decide)).t (d3.m (by decide)))
    obtain ⟨σ4, k1, k2, k3⟩ := c_addColumns hz hf (ha.fc f3) (nI i - 20 - nI (zN (zOO c s p puff beat sp))) (-1)
    rw [a1, bd_some, d1, bd_some, k1, bd_some, d2, bd_some, nI_1, aim_nx]
    refine ⟨(σ4, nI (i + 1)), (σm3, pick x5 B', nI (i + 1) - 20), rfl, rfl, rfl, rfl, f3.t (k2.m (by decide)), d4, fun j hj => ?_, B', d5, ?_, rfl⟩
    · rw [k3 j hj, d3.fI 0 0 1 (by decide), s2 j hj, su_fst, ey, ← nI_add]
      have : ∀ a b : Int32, a + b + -1 * a = b := by intros; grind
      rw [this]
      refine congrArg nI (su_congr _ (fun a _ => ?_))
      rw [xa_next]
    · exact (d6.fc k2 (by decide) (FM.z (i := []) (q := []))).an (by simp)
/-- no pea flies: the model's best is none, at the first aim -/
theorem aim_none_row (hz : ShOk (zOO c s p puff beat sp)) (hc7 : c 7 = sp) (hf : ¬ sFate c p puff sp = 0) {i : Nat} (hi : i < 41) {x5 x6 : Int32} (g : FMS (mS σM) σm) (hc : gI σM 12 0 5 = c)
    (b : (i = 0 ∧ gL σm 12 0 0 35 = -1 ∧ gL σm 12 0 0 36 = 1) ∨ (gL σm 12 0 0 35 = 0 ∧ gL σm 12 0 0 36 = 1 ∧ x6 = -20)) :
    ∃ q, F12_bestAim_L93 (nI s) (nI p) puff beat x5 (nI i - 20) fuelK σm x6 (-20) = some q ∧ FMS (mS σM) q.2 ∧ gL q.2 12 0 0 35 = 0 ∧ gL q.2 12 0 0 36 = 1 ∧ q.1 = -20 := by
  refine loopG (L := fun n (w : Mem × Int32 × Int32) => F12_bestAim_L93 (nI s) (nI p) puff beat x5 (nI i - 20) n w.1 w.2.1 w.2.2) (N := 41)
    (Inv := fun j v => v.2.2 = nI j - 20 ∧ FMS (mS σM) v.1 ∧ ((i = 0 ∧ j = 0 ∧ gL v.1 12 0 0 35 = -1 ∧ gL v.1 12 0 0 36 = 1) ∨ (gL v.1 12 0 0 35 = 0 ∧ gL v.1 12 0 0 36 = 1 ∧ v.2.1 = -20))) ?_ 41 fuelK 0 (σm, x6, -20) (by omega) (fuelK_lt (by omega)) ⟨rfl, g, b.imp (fun h => ⟨h.1, rfl, h.2⟩) id⟩
  rintro m j ⟨σm1, y6, x8m⟩ hj ⟨e2, g1, b1⟩
  simp only at e2 g1 b1
  subst e2
  simp only [F12_bestAim_L93.eq_2]
  by_cases e : j = 41
  · subst e
    rw [if_pos ((aim_lt (by omega)).mpr rfl)]
    rcases b1 with ⟨-, h, -⟩ | h
    · cases h
    · exact .inl ⟨_, rfl, g1, h⟩
  · refine .inr ⟨by omega, ?_⟩
    have hc1 : gI σm1 12 0 5 = c := ((FM.c g1 (by decide)).trans mS_c).trans hc
    have hzj : ShOk (zIJ c s p puff beat sp i j) := hz
    obtain ⟨σm2, m1, m2, m3, m4, m5⟩ := m_counts (σ := σm1) (s := s) (p := p) (puff := puff) (beat := beat) (x := nI i - 20) (y := nI j - 20) (spit := sp) (by rw [hc1]; exact hzj)
    rw [hc1] at m4 m5
    have hf' : ¬ zFate (zIJ c s p puff beat sp i j) = 0 := hf
    have o1 : oAll (zIJ c s p puff beat sp i j) = 1 := by unfold oAll; rw [if_neg hf']
    have o2 : oSum (zIJ c s p puff beat sp i j) = 0 := by unfold oSum; rw [if_neg hf']
    have m4' : gI σm2 12 0 0 33 = nI 1 := m4.trans (congrArg nI o1)
    have m5' : gI σm2 12 0 0 34 = nI 0 := m5.trans (congrArg nI o2)
    have g2 : FMS (mS σM) σm2 := FM.t g1 (m2.m (by decide) (by decide) (by decide))
    have k5 : gL σm2 12 0 0 35 = gL σm1 12 0 0 35 := m2.2.1 35 (by decide)
    have k6 : gL σm2 12 0 0 36 = gL σm1 12 0 0 36 := m2.2.1 36 (by decide)
    rw [if_neg (fun e2 => e ((aim_lt (by omega)).mp e2)), hc1, al_7, Option.bind_some, hc7, m1, bd_some]
    unfold F12_isBetter
    rw [m4', m5', k5, k6, aim_nx]
    rcases b1 with ⟨rfl, rfl, b2, b3⟩ | ⟨b2, b3, b4⟩
    · rw [b2, b3, if_pos (show (-1 : Int64) * Int32.toInt64 (nI 1) < Int32.toInt64 (nI 0) * 1 by decide), bnd_eq, bnd_eq, bd_some, if_pos rfl, gI_sL, m4']
      have w1 : (nI 0 : Int32) - 20 = -20 := by decide
      refine ⟨(sL (sL σm2 12 0 0 35 (Int32.toInt64 (nI 0))) 12 0 0 36 (Int32.toInt64 (nI 1)), -20, nI (0 + 1) - 20), ?_, rfl, FM.sL (FM.sL g2 (by decide)) (by decide), .inr ⟨?_, ?_, rfl⟩⟩
      · by_cases e5 : x5 = 0
        · rw [if_pos e5, w1]
        · rw [if_neg e5, w1]
      · rw [rL_n (by decide), rL_s]; rfl
      · rw [rL_s]; rfl
    · rw [b2, b3, if_neg (show ¬ (0 : Int64) * Int32.toInt64 (nI 1) < Int32.toInt64 (nI 0) * 1 by decide), bd_some, if_neg (by decide)]
      exact ⟨(σm2, y6, nI (j + 1) - 20), rfl, rfl, g2, .inr ⟨k5.trans b2, k6.trans b3, b4⟩⟩
theorem aim_none (hz : ShOk (zOO c s p puff beat sp)) (hc7 : c 7 = sp) (hf : ¬ sFate c p puff sp = 0) {x5 x6 : Int32} (g : FMS (mS σM) σm) (hc : gI σM 12 0 5 = c)
    (b : gL σm 12 0 0 35 = -1 ∧ gL σm 12 0 0 36 = 1) :
    ∃ q, F12_bestAim_L82 (nI s) (nI p) puff beat x5 fuelK σm x6 (-20) = some q ∧ FMS (mS σM) q.2 ∧ gL q.2 12 0 0 35 = 0 ∧ gL q.2 12 0 0 36 = 1 ∧ q.1 = -20 := by
  refine loopG (L := fun n (w : Mem × Int32 × Int32) => F12_bestAim_L82 (nI s) (nI p) puff beat x5 n w.1 w.2.1 w.2.2) (N := 41)
    (Inv := fun i v => v.2.2 = nI i - 20 ∧ FMS (mS σM) v.1 ∧ ((i = 0 ∧ gL v.1 12 0 0 35 = -1 ∧ gL v.1 12 0 0 36 = 1) ∨ (gL v.1 12 0 0 35 = 0 ∧ gL v.1 12 0 0 36 = 1 ∧ v.2.1 = -20))) ?_ 41 fuelK 0 (σm, x6, -20) (by omega) (fuelK_lt (by omega)) ⟨rfl, g, .inl ⟨rfl, b⟩⟩
  rintro m i ⟨σm1, y6, x8m⟩ hi ⟨e2, g1, b1⟩
  simp only at e2 g1 b1
  subst e2
  simp only [F12_bestAim_L82.eq_2]
  by_cases e : i = 41
  · subst e
    rw [if_pos ((aim_lt (by omega)).mpr rfl)]
    rcases b1 with ⟨h, -⟩ | h
    · cases h
    · exact .inl ⟨_, rfl, g1, h⟩
  · refine .inr ⟨by omega, ?_⟩
    rw [if_neg (fun e2 => e ((aim_lt (by omega)).mp e2))]
    obtain ⟨⟨q1, q2⟩, a1, a2, a3, a4, a5⟩ := aim_none_row (x5 := x5) hz hc7 hf (i := i) (by omega) g1 hc b1
    simp only at a2 a3 a4 a5
    rw [a1, bd_some, aim_nx]
    exact ⟨(q2, q1, nI (i + 1) - 20), rfl, rfl, a2, .inr ⟨a3, a4, a5⟩⟩
theorem iMin_6 {a : Nat} (ha : a ≤ 6) : iMin 6 (nI a) = nI a := by
  unfold iMin
  split
  · rfl
  · rename_i h
    have : ¬ a < 6 := fun e => h ((nI_ltI (a := a) (b := 6) (by omega) (by omega)).mpr e)
    rw [show a = 6 by omega]; rfl
theorem nI_div41 {B : Nat} (hB : B < 1681) : nI B / 41 = nI (B / 41) := by
  rw [i32_eq, i32_div (by rw [nI_int (by omega)]; omega) (by decide), nI_int (by omega), nI_int (by omega), show (41 : Int32).toInt = 41 from rfl, Int.tdiv_eq_ediv_of_nonneg (by omega)]
  omega
theorem aim_end (h : Rel σC σM) {x5 : Int32} {B' : Nat} (hB' : B' < 1681) (b : BestR true σ σm (nI B')) (f : FC [0, 1, 2, 6] σC σ) (g : FMS (mS σM) σm) :
    Stq (bd (F11_tell σ (gL σ 1 0 0 2) (gL σ 1 0 0 3)) fun _ s_6 => if x5 = 0 then (bnd ((gI s_6 1 0 0 1) / 41) fun v_10 => bd (F11_answer s_6 (v_10 - 20)) fun v_11 s_12 => some (v_11, s_12)) else (bnd (iRem (gI s_6 1 0 0 1) 41) fun v_7 => bd (F11_answer s_6 (v_7 - 20)) fun v_8 s_9 => some (v_8, s_9)))
      (bd (F12_fraction σm (gL σm 12 0 0 35) (gL σm 12 0 0 36)) fun v_18 s_19 => some (pick x5 B', s_19)) := by
  rcases b with ⟨b1, -⟩ | ⟨-, b1, b2, l, T, B, b3, b4, b5, b6, b7, b8, b9, b10⟩
  · cases b1
  have hB : B ≤ 338 := Nat.le_trans (Nat.le_mul_of_pos_left B (by omega)) b6
  have hT : T ≤ 6760 := Nat.le_trans (Nat.le_mul_of_pos_left T (by omega)) b5
  rw [b7, b8, b9, b10, tell_both b3 (by omega) (by omega) b4, frac_both (by omega) (by omega) b4, bd_some, bd_some, gI_sL, gI_sL, b2, nI_div41 hB', show iRem (nI B') 41 = nI (B' % 41) from iRem_nI (b := 41) (by omega) (by omega) (by omega), bnd_eq, bnd_eq, ans_eq, ans_eq, bd_some, bd_some]
  unfold pick
  by_cases e : x5 = 0
  · rw [if_pos e, if_pos e]
    exact ⟨_, _, _, rfl, rfl, h.tel f.pcs g _ _⟩
  · rw [if_neg e, if_neg e]
    exact ⟨_, _, _, rfl, rfl, h.tel f.pcs g _ _⟩
theorem pick_840 {x5 : Int32} : pick x5 840 = 0 := by
  unfold pick; split <;> decide
theorem pick_0 {x5 : Int32} : pick x5 0 = -20 := by
  unfold pick; split <;> decide
theorem lN_0 : lN 0 = 0 := rfl
set_option maxHeartbeats 400000 in
theorem st_bestAim (h : Rel σC σM) (x1 x2 x3 x4 x5 : Int32) : Stq (F11_bestAim σC x1 x2 x3 x4 x5) (F12_bestAim σM x1 x2 x3 x4 x5) := by
  have o := h.ok5
  have h6 := ok_n6 o
  unfold F11_bestAim F12_bestAim
  rw [bnd_mS, m_isShot, mS_c]
  simp only [Option.bind_some, wi_0, wi_1, isPuffing_w, isSpit_w, isAim_w, isPlace_w, wi_0_8, wi_0_20, wi_0_3, wi_m60_60, wi_m1_1, wi_0_1, wi_m999_999, wi_1_20, wi_1_30, wi_0_99, wi_1_5, wi_0_2, wi_m99_99, wi_1_12, wi_m6_6, wi_0_9999, wi_0_4, wi_1_40]
  by_cases hs : ¬ F11_within x1 0 (gI σM 12 0 5 6 - 1) = true
  · rw [ws_s h _ _ _ _ _ hs]
    simp only [hs, if_false, Bool.false_and, Bool.and_false, Bool.true_and, Bool.and_true, Bool.false_eq_true, if_true, Bool.and_self, ans_eq, ref_eq, agr_eq, den_eq, mref_eq, mno_eq, bd_some, Option.bind_some, ne_2_0, ne_5_0]
    exact ⟨_, _, _, rfl, rfl, h.no 2⟩
  replace hs := Decidable.not_not.mp hs
  by_cases hp : ¬ F11_within x2 0 (gI σM 12 0 5 5 - 1) = true
  · rw [ws_p h _ _ _ _ hs hp]
    simp only [hp, if_false, Bool.false_and, Bool.and_false, Bool.true_and, Bool.and_true, Bool.false_eq_true, if_true, Bool.and_self, ans_eq, ref_eq, agr_eq, den_eq, mref_eq, mno_eq, bd_some, Option.bind_some, ne_2_0, ne_5_0]
    exact ⟨_, _, _, rfl, rfl, h.no 2⟩
  replace hp := Decidable.not_not.mp hp
  obtain ⟨k, hk, rfl⟩ := in_rng (n5_int o) hp
  obtain ⟨s, hk6, rfl⟩ := in_rng (n6_int o) hs
  rw [ws_in h x3 x4 0 0 hk6 hs hp]
  simp (disch := omega) only [hs, hp, mS_c, ix_9, ix_15, ix_21, ix_29, ix_37, ix_45, ix_53, ix_59, ix_65, ix_71, ix_77, ix_83, ix_325, al_0, al_1, al_2, al_3, al_4, al_5, al_6, al_7, al_8, ald_nI, Option.bind_some, bnd_eq, bd_some, if_true, Bool.and_self, Bool.true_and, wn_060]
  by_cases g1 : ¬ F11_within x3 1 (gI σM 12 0 5 (53 + s)) = true
  · simp only [g1, if_false, Bool.false_and, Bool.and_false, Bool.true_and, Bool.and_true, Bool.false_eq_true, if_true, Bool.and_self, ans_eq, ref_eq, agr_eq, den_eq, mref_eq, mno_eq, bd_some, Option.bind_some, ne_2_0, ne_5_0]
    exact ⟨_, _, _, rfl, rfl, h.no 5⟩
  replace g1 := Decidable.not_not.mp g1
  by_cases g2 : ¬ F11_within x4 0 3 = true
  · simp only [g1, g2, if_false, Bool.false_and, Bool.and_false, Bool.true_and, Bool.and_true, Bool.false_eq_true, if_true, Bool.and_self, ans_eq, ref_eq, agr_eq, den_eq, mref_eq, mno_eq, bd_some, Option.bind_some, ne_2_0, ne_5_0]
    exact ⟨_, _, _, rfl, rfl, h.no 5⟩
  replace g2 := Decidable.not_not.mp g2
  by_cases g3 : ¬ F11_within x5 0 1 = true
  · simp only [g1, g2, g3, if_false, Bool.false_and, Bool.and_false, Bool.true_and, Bool.and_true, Bool.false_eq_true, if_true, Bool.and_self, ans_eq, ref_eq, agr_eq, den_eq, mref_eq, mno_eq, bd_some, Option.bind_some, ne_2_0, ne_5_0]
    exact ⟨_, _, _, rfl, rfl, h.no 5⟩
  replace g3 := Decidable.not_not.mp g3
  obtain ⟨σ1, k1, k2, k3⟩ := c_takeZ h FC.z s k x3 x4 0 0
  obtain ⟨σ2, b1, b2, b3⟩ := c_begin (σ := σ1)
  obtain ⟨f, e1, e2⟩ := fillI_eq (σ := σ2) (a := 0) (b := 0) (c := 1) (N := 41) (v := 0) (by omega)
  have hz : ShOk (zOO (gI σM 12 0 5) s k x3 x4 (gI σM 12 0 5 7)) := zok h hk6 hk x4 0 0 g1
  have f2 : FC [0, 1, 2, 6] σC σ2 := FC.t k2.w6 (b2.m (by decide))
  have f3 : FC [0, 1, 2, 6] σC (sIf σ2 0 0 1 f) := FC.t f2 (FC.I (by decide))
  have z3 : ShotZ (sIf σ2 0 0 1 f) (zOO (gI σM 12 0 5) s k x3 x4 (gI σM 12 0 5 7)) := k3.fc (fun q _ => by rw [rI_a (by decide), b2.fI 6 0 0 (by decide)])
  have hsp := h.sp.2
  obtain ⟨σ4, r1, r2, r3, r4, r5⟩ := c_reckon (σ := sIf σ2 0 0 1 f) (t0 := 0) (h.tt.fc f3 (by decide)) o hk hsp ⟨z3.2.1, z3.2.2.1, z3.2.2.2.2.2.2.1, z3.2.2.2.2.2.2.2⟩
  have z4 := z3.fc r3
  have f4 : FC [0, 1, 2, 6] σC σ4 := f3.t r2.w6
  have t4 := h.tt.fc f4 (by decide)
  obtain ⟨σm, m1, m2, m3, m4⟩ := m_noBest (σ := mS σM)
  have gm : FMS (mS σM) σm := m2.m (by decide) (by decide) (by decide)
  obtain ⟨hn1, hn2⟩ := zN_le hz
  have hn2 : sHand (gI σM 12 0 5) s x4 = nI (zN (zOO (gI σM 12 0 5) s k x3 x4 (gI σM 12 0 5 7))) := hn2
  have hall : (2 * (2 * nI (zN (zOO (gI σM 12 0 5) s k x3 x4 (gI σM 12 0 5 7))) + 1)) * (2 * nI (zN (zOO (gI σM 12 0 5) s k x3 x4 (gI σM 12 0 5 7))) + 1) = nI (zA (zOO (gI σM 12 0 5) s k x3 x4 (gI σM 12 0 5 7))) := by
    unfold zA
    rw [show (2 : Int32) = nI 2 from rfl, pk_mul, nI_1, pk_mul, pk_mul, Nat.mul_assoc]
  have bf : gB σ4 1 0 0 0 = false := by rw [r2.fB 1 0 0 (by decide)]; exact b3
  simp only [g1, g2, g3, ↓reduceIte, Bool.and_self, Option.bind_some]
  rw [k1, bd_some, b1, bd_some, m1, bd_some]
  rw [h.fct f2 (by decide), gd_at h.t5]
  unfold F0_search
  rw [e1, bd_some, r1, bd_some, z4.1, z4.2.2.2.1, c_hand t4 o hk6, Option.bind_some]
  simp only
  rw [hn2, iMin_6 hn1, bnd_eq, hall, bnd_eq, r4]
  by_cases hf : sFate (gI σM 12 0 5) k x3 (gI σM 12 0 5 7) = 0
  · rw [if_pos hf, bnd_eq]
    obtain ⟨-, q0, q1, q2, q3⟩ := r5 hf
    have ha : AimS σ4 (gR σC 11 0 0 5) (zOO (gI σM 12 0 5) s k x3 x4 (gI σM 12 0 5 7)) := by
      refine ⟨t4, z4.1, z4.2.2.2.2.1, z4.2.2.2.2.2.1, ?_, ?_, ?_⟩
      · rw [q1, q0]; rfl
      · rw [q2, q0]; rfl
      · rw [q3, q0]; rfl
    have s0 : ∀ j, j < 41 → gI σ4 0 0 1 j = 0 := fun j hj => by rw [r2.fI 0 0 1 (by decide), rI_f]; exact e2 j hj
    obtain ⟨⟨u5, σ5⟩, a1, a2, a3⟩ := lead_L hz hf ha s0 (nI (zA (zOO (gI σM 12 0 5) s k x3 x4 (gI σM 12 0 5 7))))
    simp only at a2 a3
    have bb : BestR false σ5 σm (nI 840) := .inl ⟨rfl, by rw [a2.fB 1 0 0 (by decide)]; exact bf, m3, m4⟩
    obtain ⟨⟨u6, σ6⟩, ⟨q6, σm6⟩, d1, d2, d3, d4, B', d5, d6, d7⟩ := aim_all (t := gR σC 11 0 0 5) (x5 := x5) hz rfl hf (ha.fc (a2.m (by decide))) bb gm rfl a3
    simp only at d3 d4 d6 d7
    subst d7
    rw [pick_840] at d2
    rw [a1, bd_some, d1, bd_some, d2, bd_some, bd_some]
    exact aim_end h d5 d6 ((f4.t (a2.m (by decide))).t (d3.m (by decide))) d4
  · rw [if_neg hf]
    have za := zA_le hz
    obtain ⟨⟨q6, σm6⟩, d1, d2, d3, d4, d5⟩ := aim_none (x5 := x5) (x6 := 0) (σm := σm) hz rfl hf gm rfl ⟨m3, m4⟩
    simp only at d2 d3 d4 d5
    subst d5
    unfold F1_offer
    rw [bf, if_neg (by decide), bnd_eq, bnd_eq, bnd_eq, bnd_eq, bd_some, bd_some, d1, bd_some, nI_l (show zA (zOO (gI σM 12 0 5) s k x3 x4 (gI σM 12 0 5 7)) < 2 ^ 31 by omega), ← pick_0 (x5 := x5)]
    refine aim_end h (by omega) ?_ ?_ d2
    · refine .inr ⟨rfl, ?_, ?_, zA (zOO (gI σM 12 0 5) s k x3 x4 (gI σM 12 0 5 7)), 0, 1, za.1, by omega, by omega, by omega, ?_, ?_, d3, d4⟩
      · simp (disch := decide) only [rI_s, rI_n, rI_f, rI_a, rI_c, rL_s, rL_n, rL_f, rL_a, rL_c, rB_s, rB_n, rB_a, rR_s, rR_n, gI_sL, gI_sB, gI_sR, gL_sI, gL_sB, gL_sR, gB_sI, gB_sL, gB_sR, gR_sI, gR_sL, gR_sB]
      · simp (disch := decide) only [rI_s, rI_n, rI_f, rI_a, rI_c, rL_s, rL_n, rL_f, rL_a, rL_c, rB_s, rB_n, rB_a, rR_s, rR_n, gI_sL, gI_sB, gI_sR, gL_sI, gL_sB, gL_sR, gB_sI, gB_sL, gB_sR, gR_sI, gR_sL, gR_sB]; rfl
      · simp (disch := decide) only [rI_s, rI_n, rI_f, rI_a, rI_c, rL_s, rL_n, rL_f, rL_a, rL_c, rB_s, rB_n, rB_a, rR_s, rR_n, gI_sL, gI_sB, gI_sR, gL_sI, gL_sB, gL_sR, gB_sI, gB_sL, gB_sR, gR_sI, gR_sL, gR_sB, Nat.mul_zero]; rfl
      · rw [Nat.mul_one]; exact rL_s
    · refine FC.t f4 ?_
      repeat' first | exact FC.z | refine FC.sI ?_ (by decide) | refine FC.sL ?_ (by decide) | refine FC.sB ?_ (by decide)
end AIC
