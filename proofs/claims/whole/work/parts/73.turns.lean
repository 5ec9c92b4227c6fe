/-! PURE. turns. -/
section TUR
variable {σC σM σ σm : Mem}
/-- in how many couples of ways the one has more -/
def abv (A B : Nat → Nat) : Nat := su 101 (fun v => A v * su v B)
theorem lN_int63 {n : Nat} (h : n < 9223372036854775808) : (lN n).toInt = n := by
  exact Int64.toInt_ofNat_of_lt h
theorem abv_mul {A B : Nat → Nat} {a b : Nat} : abv (fun v => a * A v) (fun v => b * B v) = a * b * abv A B := by
  unfold abv
  rw [← su_mul]
  exact su_congr _ (fun v _ => by rw [su_mul, Nat.mul_mul_mul_comm])
theorem c_above {A B : Nat → Nat} {i j : Nat} (hA : ∀ v, v < 101 → gL σ 2 i 2 v = lN (A v)) (hB : ∀ v, v < 101 → gL σ 2 j 2 v = lN (B v)) : F2_waysAbove σ i j = some (lN (abv A B)) := by
  have key : ∃ r, F2_waysAbove_L8 σ i j fuelK 0 0 0 = some r ∧ r = lN (abv A B) := by
    refine loopG (L := fun m (w : Int64 × Int64 × Int32) => F2_waysAbove_L8 σ i j m w.1 w.2.1 w.2.2) (N := 101)
      (Inv := fun k w => w.2.2 = nI k ∧ w.1 = lN (su k (fun v => A v * su v B)) ∧ w.2.1 = lN (su k B)) ?_ 101 fuelK 0 (0, 0, 0) (by omega) (fuelK_lt (by omega)) ⟨rfl, rfl, rfl⟩
    rintro m k ⟨y, b, w⟩ hk ⟨e1, e2, e3⟩
    simp only at e1 e2 e3
    subst e1; subst e2; subst e3
    simp only [F2_waysAbove_L8.eq_2]
    by_cases e : k = 101
    · subst e
      exact .inl ⟨_, by rw [if_pos (by decide)]; rfl, rfl⟩
    · refine .inr ⟨by omega, ?_⟩
      rw [if_neg (show ¬ (100 : Int32) < nI k from nI_nlt (b := k) (a := 100) (by omega) (by omega)), ald_nI (by omega) (by omega), Option.bind_some, bnd_eq, ald_nI (by omega) (by omega), Option.bind_some, bnd_eq, hA k (by omega), hB k (by omega), lN_mul, lN_add, lN_add, nI_1]
      exact ⟨(lN _, lN _, nI (k + 1)), rfl, rfl, by rw [su_s], by rw [su_s]⟩
  obtain ⟨r, k1, k2⟩ := key
  rw [F2_waysAbove, k1, Option.bind_some, k2]
theorem c_allWays {A : Nat → Nat} {i : Nat} (hA : ∀ v, v < 101 → gL σ 2 i 2 v = lN (A v)) : F2_allWays σ i = some (lN (su 101 A)) := by
  have key : ∃ r, F2_allWays_L4 σ i fuelK 0 0 = some r ∧ r = lN (su 101 A) := by
    refine loopG (L := fun m (w : Int64 × Int32) => F2_allWays_L4 σ i m w.1 w.2) (N := 101)
      (Inv := fun k w => w.2 = nI k ∧ w.1 = lN (su k A)) ?_ 101 fuelK 0 (0, 0) (by omega) (fuelK_lt (by omega)) ⟨rfl, rfl⟩
    rintro m k ⟨y, w⟩ hk ⟨e1, e2⟩
    simp only at e1 e2
    subst e1; subst e2
    simp only [F2_allWays_L4.eq_2]
    by_cases e : k = 101
    · subst e
      exact .inl ⟨_, by rw [if_pos (by decide)], rfl⟩
    · refine .inr ⟨by omega, ?_⟩
      rw [if_neg (show ¬ (100 : Int32) < nI k from nI_nlt (b := k) (a := 100) (by omega) (by omega)), ald_nI (by omega) (by omega), Option.bind_some, bnd_eq, hA k (by omega), lN_add, nI_1]
      exact ⟨(lN _, nI (k + 1)), rfl, rfl, by rw [su_s]⟩
  obtain ⟨r, k1, k2⟩ := key
  rw [F2_allWays, k1, Option.bind_some, k2]
/-- one who shoots against others: the numbers of it -/
def zR (c : Nat → Int32) (s p : Nat) : ShN := (c, s, p, c (53 + s), 2, 0, 0, 0)
theorem zR_ok {c : Nat → Int32} (o : TentOk c) {s p : Nat} (hs : s < nat (c 6)) (hp : p < nat (c 5)) : ShOk (zR c s p) :=
  ⟨o, hs, hp, (show 0 ≤ (0 : Int32).toInt ∧ (0 : Int32).toInt ≤ 20 by decide), (ok_sh o hs).1⟩
theorem zR_aim (c : Nat → Int32) (s p : Nat) : AimOk (zR c s p) := ⟨(show -60 ≤ (0 : Int32).toInt ∧ (0 : Int32).toInt ≤ 60 by decide), (show -60 ≤ (0 : Int32).toInt ∧ (0 : Int32).toInt ≤ 60 by decide)⟩
/-- the rival i is made ready: so many shots of s -/
def Riv (σ : Mem) (i : Nat) (z : ShN) (shots l : Nat) : Prop := l * oAll z = zA z ∧ 1 ≤ l ∧ ∀ v, v < 101 → gL σ 2 (1 + i) 2 v = lN (l ^ shots * wy (oCnt z) shots v)
theorem c_rival (h : Rel σC σM) (f : FC [0, 1, 2, 6] σC σ) {i s p shots : Nat} (hi : i < 4) (hsh : shots ≤ 5) (hs : s < nat (gI σM 12 0 5 6)) (hp : p < nat (gI σM 12 0 5 5)) :
    ∃ σ' l, F11_setRival σ (nI i) (nI s) (nI p) (nI shots) = some ((), σ') ∧ FC [2, 6] σ σ' ∧ Riv σ' i (zR (gI σM 12 0 5) s p) shots l ∧ (∀ j, j ≠ 1 + i → gL σ' 2 j 2 = gL σ 2 j 2) := by
  have h6 := ok_n6 h.ok5
  have hz := zR_ok h.ok5 hs hp
  have hgun : gI σ 9 (gR σC 11 0 0 5) 9 s = gI σM 12 0 5 (53 + s) := by rw [f.fI 9 _ 9 (by decide)]; exact (h.tt.2.2.2 s hs).1
  unfold F11_setRival
  rw [h.fct f (by decide), gd_at h.t5, ald_nI (by omega) (by omega), Option.bind_some, hgun]
  obtain ⟨σ1, k1, k2, k3⟩ := c_takeZ h f s p (gI σM 12 0 5 (53 + s)) 2 0 0
  have f1 : FC [6] σ (sI σ1 6 0 0 6 0) := FC.sI k2 (by decide)
  have f1' : FC [0, 1, 2, 6] σC (sI σ1 6 0 0 6 0) := f.t f1.w6
  have hzz : ShotZ (sI σ1 6 0 0 6 0) (zR (gI σM 12 0 5) s p) := by
    obtain ⟨z0, z1, z2, z3, z4, z5, z6, z7⟩ := k3
    refine ⟨?_, ?_, ?_, ?_, ?_, ?_, ?_, ?_⟩
    · rw [rI_n (by decide)]; exact z0
    · rw [rI_n (by decide)]; exact z1
    · rw [rI_n (by decide)]; exact z2
    · rw [rI_n (by decide)]; exact z3
    · rw [rI_n (by decide)]; exact z4
    · rw [rI_n (by decide)]; exact z5
    · rw [rI_s]; rfl
    · rw [rI_n (by decide)]; exact z7
  obtain ⟨σ2, l, r1, r2, r3, r4, r5, r6, r7⟩ := c_chances (q := 1 + i) (h.tt.fc f1' (by decide)) hz (zR_aim _ s p) hzz
  have hle := r7.le hz
  obtain ⟨σ3, a1, a2, a3⟩ := c_addUp (σ := σ2) (q := 1 + i) (f := fun v => l * oCnt (zR (gI σM 12 0 5) s p) v) hsh (fun j hj => ⟨r7.2.2.1 j (by omega), by have := hle.2.2.1 j; omega⟩)
  refine ⟨σ3, l, ?_, (f1.m (by decide)).t (r2.t (a2.1.m (by decide))), ⟨r7.2.1, r7.1, fun v hv => by rw [a3 v hv, wy_mul]⟩, fun j hj => ?_⟩
  · rw [k1, bd_some, bnd_eq, ald_nI (by omega) (by omega), Option.bind_some, h.fct f1' (by decide), gd_at h.t5]
    simp only [id]
    rw [r1, bd_some, Option.bind_some, a1, bd_some]
  · rw [a2.2.2 j 2 (.inl hj), r6, gL_sI, k2.fL 2 j 2 (by decide)]
theorem zA_18 {z : ShN} (hz : ShOk z) (hb : z.2.2.2.2.1 = 2) {l : Nat} (hl : l * oAll z = zA z) (h1 : 1 ≤ l) : l ≤ 18 ∧ oAll z ≤ 18 ∧ l * oAll z ≤ 18 := by
  obtain ⟨-, -, q3, -⟩ := zA_q hz hb
  have hA := oAll_le hz
  have a1 := Nat.mul_le_mul h1 (Nat.le_refl (oAll z))
  have a2 := Nat.mul_le_mul (Nat.le_refl l) hA.1
  omega
theorem m_waysOf {A k : Nat} (h33 : gI σ 12 0 0 33 = nI A) (hA : A < 2147483648) (hk : k ≤ 5) : F12_waysOf σ (nI k) = some (lN (A ^ k)) := by
  have key : ∃ r, F12_waysOf_L5 σ (nI k) fuelK 1 0 = some r ∧ r = lN (A ^ k) := by
    refine loopG (L := fun m (w : Int64 × Int32) => F12_waysOf_L5 σ (nI k) m w.1 w.2) (N := k)
      (Inv := fun i w => w.2 = nI i ∧ w.1 = lN (A ^ i)) ?_ k fuelK 0 (1, 0) (by omega) (fuelK_lt (by omega)) ⟨rfl, rfl⟩
    rintro m i ⟨y, w⟩ hi ⟨e1, e2⟩
    simp only at e1 e2
    subst e1; subst e2
    simp only [F12_waysOf_L5.eq_2]
    by_cases e : i = k
    · subst e
      exact .inl ⟨_, by rw [if_pos (Int32.le_refl _)], rfl⟩
    · refine .inr ⟨by omega, ?_⟩
      rw [if_neg (nI_ge (by omega) (by omega)), bnd_eq, h33, nI_l hA, lN_mul, nI_1]
      exact ⟨(lN _, nI (i + 1)), rfl, rfl, by rw [Nat.pow_succ]⟩
  obtain ⟨r, k1, k2⟩ := key
  rw [F12_waysOf, k1, Option.bind_some, k2]
/-- which couples are counted -/
def prs (w v u : Nat) : Bool := if w = 0 then decide (u < v) else if w = 1 then decide (v = u) else decide (v < u)
theorem m_turnsL {A B : Nat → Nat} {w : Nat} (hw : w ≤ 2) (hA : ∀ v, v < 101 → gL σ 12 0 9 v = lN (A v)) (hB : ∀ v, v < 101 → gL σ 12 0 10 v = lN (B v)) :
    F12_turns_L118 σ (nI w) fuelK 0 0 = some (lN (su 101 (fun v => su 101 (fun u => if prs w v u = true then A v * B u else 0)))) := by
  have inner : ∀ v y, v < 101 → F12_turns_L128 σ (nI w) (nI v) fuelK (lN y) 0 = some (lN (y + su 101 (fun u => if prs w v u = true then A v * B u else 0))) := by
    intro v y hv
    have key : ∃ r, F12_turns_L128 σ (nI w) (nI v) fuelK (lN y) 0 = some r ∧ r = lN (y + su 101 (fun u => if prs w v u = true then A v * B u else 0)) := by
      refine loopG (L := fun m (q : Int64 × Int32) => F12_turns_L128 σ (nI w) (nI v) m q.1 q.2) (N := 101)
        (Inv := fun i q => q.2 = nI i ∧ q.1 = lN (y + su i (fun u => if prs w v u = true then A v * B u else 0))) ?_ 101 fuelK 0 (lN y, 0) (by omega) (fuelK_lt (by omega)) ⟨rfl, rfl⟩
      rintro m i ⟨q, x⟩ hi ⟨e1, e2⟩
      simp only at e1 e2
      subst e1; subst e2
      simp only [F12_turns_L128.eq_2]
      by_cases e : i = 101
      · subst e
        exact .inl ⟨_, by rw [if_pos (by decide)], rfl⟩
      · refine .inr ⟨by omega, ?_⟩
        have fin : ∀ z : Int64, z = lN (y + su (i + 1) (fun u => if prs w v u = true then A v * B u else 0)) → ∃ s' : Int64 × Int32, F12_turns_L128 σ (nI w) (nI v) m z (nI (i + 1)) = F12_turns_L128 σ (nI w) (nI v) m s'.1 s'.2 ∧ s'.2 = nI (i + 1) ∧ s'.1 = lN (y + su (i + 1) (fun u => if prs w v u = true then A v * B u else 0)) := fun z hz => ⟨(z, nI (i + 1)), rfl, rfl, hz⟩
        have yes : prs w v i = true → lN (y + su i (fun u => if prs w v u = true then A v * B u else 0)) + lN (A v) * lN (B i) = lN (y + su (i + 1) (fun u => if prs w v u = true then A v * B u else 0)) := fun hp => by rw [su_s, if_pos hp, lN_mul, lN_add, Nat.add_assoc]
        have no : prs w v i = false → lN (y + su i (fun u => if prs w v u = true then A v * B u else 0)) = lN (y + su (i + 1) (fun u => if prs w v u = true then A v * B u else 0)) := fun hp => by rw [su_s, if_neg (by rw [hp]; decide), Nat.add_zero]
        rw [if_neg (show ¬ (101 : Int32) ≤ nI i from nI_ge (a := i) (b := 101) (by omega) (by omega))]
        simp (disch := omega) only [ald_nI, Option.bind_some, bnd_eq, nI_1, hA v hv, hB i (show i < 101 by omega)]
        rcases (show w = 0 ∨ w = 1 ∨ w = 2 by omega) with rfl | rfl | rfl
        · rw [if_pos nI_z]
          by_cases hc : v ≤ i
          · rw [if_pos (nI_le (by omega) (by omega))]
            exact fin _ (no (by simp [prs]; omega))
          · rw [if_neg (nI_ge (by omega) (by omega))]
            exact fin _ (yes (by simp [prs]; omega))
        · rw [if_neg (by decide), if_pos (show nI 1 = 1 from rfl)]
          by_cases hc : v = i
          · rw [if_pos (by rw [hc])]
            exact fin _ (yes (by simp [prs]; omega))
          · rw [if_neg (fun e2 => hc ((nI_eq (by omega) (by omega)).mp e2))]
            exact fin _ (no (by simp [prs]; omega))
        · rw [if_neg (by decide), if_neg (by decide)]
          by_cases hc : i ≤ v
          · rw [if_pos (nI_le (by omega) (by omega))]
            exact fin _ (no (by simp [prs]; omega))
          · rw [if_neg (nI_ge (by omega) (by omega))]
            exact fin _ (yes (by simp [prs]; omega))
    obtain ⟨r, k1, k2⟩ := key
    rw [k1, k2]
  have key : ∃ r, F12_turns_L118 σ (nI w) fuelK 0 0 = some r ∧ r = lN (su 101 (fun v => su 101 (fun u => if prs w v u = true then A v * B u else 0))) := by
    refine loopG (L := fun m (q : Int64 × Int32) => F12_turns_L118 σ (nI w) m q.1 q.2) (N := 101)
      (Inv := fun i q => q.2 = nI i ∧ q.1 = lN (su i (fun v => su 101 (fun u => if prs w v u = true then A v * B u else 0)))) ?_ 101 fuelK 0 (0, 0) (by omega) (fuelK_lt (by omega)) ⟨rfl, rfl⟩
    rintro m i ⟨q, x⟩ hi ⟨e1, e2⟩
    simp only at e1 e2
    subst e1; subst e2
    simp only [F12_turns_L118.eq_2]
    by_cases e : i = 101
    · subst e
      exact .inl ⟨_, by rw [if_pos (by decide)], rfl⟩
    · refine .inr ⟨by omega, ?_⟩
      rw [if_neg (show ¬ (101 : Int32) ≤ nI i from nI_ge (a := i) (b := 101) (by omega) (by omega)), inner i _ (by omega), Option.bind_some, nI_1]
      exact ⟨(lN _, nI (i + 1)), rfl, rfl, congrArg lN (su_s i _).symm⟩
  obtain ⟨r, k1, k2⟩ := key
  rw [k1, k2]
theorem su_lt {A : Nat → Nat} {f : Nat → Nat} : ∀ n m, m ≤ n → su n (fun u => if u < m then f u else 0) = su m f := by
  intro n
  induction n with
  | zero => intro m h; rw [show m = 0 by omega]; rfl
  | succ n ih =>
    intro m h
    by_cases e : m = n + 1
    · subst e
      exact su_congr _ (fun k hk => if_pos hk)
    · rw [su_s, ih m (by omega), if_neg (by omega), Nat.add_zero]
theorem prs_0 (A B : Nat → Nat) : su 101 (fun v => su 101 (fun u => if prs 0 v u = true then A v * B u else 0)) = abv A B := by
  unfold abv
  refine su_congr _ (fun v hv => ?_)
  rw [← su_mul, ← su_lt (A := A) (f := fun u => A v * B u) 101 v (by omega)]
  refine su_congr _ (fun u _ => ?_)
  by_cases e : u < v <;> simp [prs, e]
theorem prs_2 (A B : Nat → Nat) : su 101 (fun v => su 101 (fun u => if prs 2 v u = true then A v * B u else 0)) = abv B A := by
  rw [su_swap, ← prs_0]
  refine su_congr _ (fun v _ => su_congr _ (fun u _ => ?_))
  by_cases e : u < v <;> simp [prs, e, Nat.mul_comm]
theorem prs_sum (A B : Nat → Nat) : abv A B + su 101 (fun v => su 101 (fun u => if prs 1 v u = true then A v * B u else 0)) + abv B A = su 101 A * su 101 B := by
  rw [← prs_0 A B, ← prs_2 A B, ← su_add, ← su_add]
  rw [Nat.mul_comm, ← su_mul]
  refine su_congr _ (fun v _ => ?_)
  rw [← su_add, ← su_add, Nat.mul_comm, ← su_mul]
  refine su_congr _ (fun u _ => ?_)
  rcases Nat.lt_trichotomy u v with e | e | e
  · simp [prs, e, show ¬ v = u by omega, show ¬ v < u by omega]
  · subst e; simp [prs]
  · simp [prs, e, show ¬ v = u by omega, show ¬ u < v by omega]
theorem tell_63 {l T B : Nat} (h1 : 1 ≤ l) (hT : l * T < 9223372036854775808) (hB : l * B < 9223372036854775808) (hB1 : 1 ≤ B) :
    F11_tell σ (lN (l * T)) (lN (l * B)) = some ((), sL (sL σ 11 0 0 1 (frT T B)) 11 0 0 2 (frB T B)) := by
  have e1 := lN_int63 hT
  have e2 := lN_int63 hB
  have e3 := Nat.mul_le_mul h1 hB1
  rw [tell_eq (by rw [e1]; omega) (by rw [e2]; omega), e1, e2, Int.natCast_mul, Int.natCast_mul, frT_mul (by omega) (by omega), frB_mul (by omega) (by omega)]
theorem frac_63 {T B : Nat} (hT : T < 9223372036854775808) (hB : B < 9223372036854775808) (hB1 : 1 ≤ B) :
    F12_fraction σ (lN T) (lN B) = some (true, sL (sL σ 12 0 0 2 (frT T B)) 12 0 0 3 (frB T B)) := by
  have e1 := lN_int63 hT
  have e2 := lN_int63 hB
  rw [frac_eq (by rw [e1]; omega) (by rw [e2]; omega), e1, e2]
/-- the three numbers of turns: the class has them L times -/
theorem turns_num {f g : Nat → Nat} {a b k : Nat} (hk : k ≤ 5) :
    abv (fun v => a ^ k * wy f k v) (fun v => b ^ k * wy g k v) = a ^ k * b ^ k * abv (wy f k) (wy g k) ∧
    abv (fun v => b ^ k * wy g k v) (fun v => a ^ k * wy f k v) = a ^ k * b ^ k * abv (wy g k) (wy f k) ∧
    su 101 (fun v => a ^ k * wy f k v) * su 101 (fun v => b ^ k * wy g k v) = a ^ k * b ^ k * ((su 21 f) ^ k * (su 21 g) ^ k) ∧
    abv (wy f k) (wy g k) + su 101 (fun v => su 101 (fun u => if prs 1 v u = true then wy f k v * wy g k u else 0)) + abv (wy g k) (wy f k) = (su 21 f) ^ k * (su 21 g) ^ k := by
  refine ⟨abv_mul, ?_, ?_, ?_⟩
  · rw [abv_mul, Nat.mul_comm (b ^ k)]
  · rw [su_mul, su_mul, wy_tot k 101 (by omega), wy_tot k 101 (by omega), Nat.mul_mul_mul_comm]
  · rw [prs_sum, wy_tot k 101 (by omega), wy_tot k 101 (by omega)]
theorem st_turns (h : Rel σC σM) (x1 x2 x3 x4 x5 x6 : Int32) : Stq (F11_turns σC x1 x2 x3 x4 x5 x6) (F12_turns σM x1 x2 x3 x4 x5 x6) := by
  have o := h.ok5
  unfold F11_turns F12_turns
  rw [bnd_mS, m_isShot, m_isShot, mS_c, c_isShooter h, c_isShooter h, c_isPea h, c_isPea h]
  simp only [Option.bind_some, wi_0, wi_1, isPuffing_w, isSpit_w, isAim_w, isPlace_w, wi_0_8, wi_0_20, wi_0_3, wi_m60_60, wi_m1_1, wi_0_1, wi_m999_999, wi_1_20, wi_1_30, wi_0_99, wi_1_5, wi_0_2, wi_m99_99, wi_1_12, wi_m6_6, wi_0_9999, wi_0_4, wi_1_40]
  by_cases g1 : ¬ F11_within x1 0 (gI σM 12 0 5 6 - 1) = true
  · simp only [g1, ↓reduceIte, if_false, Bool.false_and, Bool.and_false, Bool.true_and, Bool.and_true, Bool.false_eq_true, if_true, Bool.and_self, ans_eq, ref_eq, agr_eq, den_eq, mref_eq, mno_eq, bd_some, Option.bind_some, ne_2_0, ne_5_0]
    exact ⟨_, _, _, rfl, rfl, h.no 2⟩
  replace g1 := Decidable.not_not.mp g1
  by_cases g3 : ¬ F11_within x3 0 (gI σM 12 0 5 6 - 1) = true
  · simp only [g1, g3, ite_self, ↓reduceIte, if_false, Bool.false_and, Bool.and_false, Bool.true_and, Bool.and_true, Bool.false_eq_true, if_true, Bool.and_self, ans_eq, ref_eq, agr_eq, den_eq, mref_eq, mno_eq, bd_some, Option.bind_some, ne_2_0, ne_5_0]
    exact ⟨_, _, _, rfl, rfl, h.no 2⟩
  replace g3 := Decidable.not_not.mp g3
  by_cases g2 : ¬ F11_within x2 0 (gI σM 12 0 5 5 - 1) = true
  · simp only [g1, g3, g2, ↓reduceIte, if_false, Bool.false_and, Bool.and_false, Bool.true_and, Bool.and_true, Bool.false_eq_true, if_true, Bool.and_self, ans_eq, ref_eq, agr_eq, den_eq, mref_eq, mno_eq, bd_some, Option.bind_some, ne_2_0, ne_5_0]
    exact ⟨_, _, _, rfl, rfl, h.no 2⟩
  replace g2 := Decidable.not_not.mp g2
  by_cases g4 : ¬ F11_within x4 0 (gI σM 12 0 5 5 - 1) = true
  · simp only [g1, g3, g2, g4, ↓reduceIte, if_false, Bool.false_and, Bool.and_false, Bool.true_and, Bool.and_true, Bool.false_eq_true, if_true, Bool.and_self, ans_eq, ref_eq, agr_eq, den_eq, mref_eq, mno_eq, bd_some, Option.bind_some, ne_2_0, ne_5_0]
    exact ⟨_, _, _, rfl, rfl, h.no 2⟩
  replace g4 := Decidable.not_not.mp g4
  by_cases g5 : ¬ F11_within x5 1 5 = true
  · simp only [g1, g3, g2, g4, g5, ↓reduceIte, if_false, Bool.false_and, Bool.and_false, Bool.true_and, Bool.and_true, Bool.false_eq_true, if_true, Bool.and_self, ans_eq, ref_eq, agr_eq, den_eq, mref_eq, mno_eq, bd_some, Option.bind_some, ne_2_0, ne_5_0]
    exact ⟨_, _, _, rfl, rfl, h.no 5⟩
  replace g5 := Decidable.not_not.mp g5
  by_cases g6 : ¬ F11_within x6 0 2 = true
  · simp only [g1, g3, g2, g4, g5, g6, ↓reduceIte, if_false, Bool.false_and, Bool.and_false, Bool.true_and, Bool.and_true, Bool.false_eq_true, if_true, Bool.and_self, ans_eq, ref_eq, agr_eq, den_eq, mref_eq, mno_eq, bd_some, Option.bind_some, ne_2_0, ne_5_0]
    exact ⟨_, _, _, rfl, rfl, h.no 5⟩
  replace g6 := Decidable.not_not.mp g6
  obtain ⟨a, ha, rfl⟩ := in_rng (n6_int o) g1
  obtain ⟨b, hb, rfl⟩ := in_rng (n6_int o) g3
  obtain ⟨p, hp, rfl⟩ := in_rng (n5_int o) g2
  obtain ⟨q, hq, rfl⟩ := in_rng (n5_int o) g4
  have w5 := wn_int g5
  have w6 := wn_int g6
  have i1 : (1 : Int32).toInt = 1 := rfl
  have i5 : (5 : Int32).toInt = 5 := rfl
  have i0 : (0 : Int32).toInt = 0 := rfl
  have i2 : (2 : Int32).toInt = 2 := rfl
  obtain ⟨k, hk, rfl⟩ := i32_ex (x := x5) 5 (by omega) (by omega)
  obtain ⟨w, hw, rfl⟩ := i32_ex (x := x6) 2 (by omega) (by omega)
  have hza := zR_ok o ha hp
  have hzb := zR_ok o hb hq
  obtain ⟨σ1, l1, r1, r2, r3, r4⟩ := c_rival (σ := σC) (i := 0) (shots := k) h FC.z (by omega) hk ha hp
  obtain ⟨σ2, l2, s1, s2, s3, s4⟩ := c_rival (σ := σ1) (i := 1) (shots := k) h r2.w26 (by omega) hk hb hq
  have F := (r2.w26.t s2.w26).pcs
  have wA : ∀ v, v < 101 → gL σ2 2 (1 + 0) 2 v = lN (l1 ^ k * wy (oCnt (zR (gI σM 12 0 5) a p)) k v) := fun v hv => by rw [s4 (1 + 0) (by omega)]; exact r3.2.2 v hv
  have wB : ∀ v, v < 101 → gL σ2 2 (1 + 1) 2 v = lN (l2 ^ k * wy (oCnt (zR (gI σM 12 0 5) b q)) k v) := s3.2.2
  obtain ⟨σ3, m1, m2, m3, m4⟩ := m_sumUp (σ := mS σM) (c4 := 9) (s := a) (p := p) (.inl rfl) hk (by rw [mS_c]; exact hza)
  rw [mS_c] at m3 m4
  have c3 : gI (sL σ3 12 0 0 40 (lN (oAll (zR (gI σM 12 0 5) a p) ^ k))) 12 0 5 = gI σM 12 0 5 := by rw [gI_sL, m2.c (by decide)]; exact mS_c
  obtain ⟨σ4, n1, n2, n3, n4⟩ := m_sumUp (σ := sL σ3 12 0 0 40 (lN (oAll (zR (gI σM 12 0 5) a p) ^ k))) (c4 := 10) (s := b) (p := q) (.inr rfl) hk (by rw [c3]; exact hzb)
  rw [c3] at n3 n4
  have m4' : gI σ3 12 0 0 33 = nI (oAll (zR (gI σM 12 0 5) a p)) := m4
  have n4' : gI σ4 12 0 0 33 = nI (oAll (zR (gI σM 12 0 5) b q)) := n4
  have hA1 := oAll_le hza
  have hA2 := oAll_le hzb
  have g : FMS (mS σM) (sL σ4 12 0 0 41 (lN (oAll (zR (gI σM 12 0 5) b q) ^ k))) := FM.sL ((FM.sL (m2.m (by decide) (by decide) (by decide)) (by decide)).t (n2.m (by decide) (by decide) (by decide))) (by decide)
  have W1 : ∀ v, v < 101 → gL (sL σ4 12 0 0 41 (lN (oAll (zR (gI σM 12 0 5) b q) ^ k))) 12 0 9 v = lN (wy (oCnt (zR (gI σM 12 0 5) a p)) k v) := fun v hv => by
    rw [rL_c (by decide), (n2.2.2.2 9 (by decide) (by decide)).2, rL_c (by decide)]; exact m3 v hv
  have W2 : ∀ v, v < 101 → gL (sL σ4 12 0 0 41 (lN (oAll (zR (gI σM 12 0 5) b q) ^ k))) 12 0 10 v = lN (wy (oCnt (zR (gI σM 12 0 5) b q)) k v) := fun v hv => by
    rw [rL_c (by decide)]; exact n3 v hv
  have Q1 : gL (sL σ4 12 0 0 41 (lN (oAll (zR (gI σM 12 0 5) b q) ^ k))) 12 0 0 40 = lN (oAll (zR (gI σM 12 0 5) a p) ^ k) := by
    rw [rL_n (by decide), n2.2.1 40 (by decide), rL_s]
  have Q2 : gL (sL σ4 12 0 0 41 (lN (oAll (zR (gI σM 12 0 5) b q) ^ k))) 12 0 0 41 = lN (oAll (zR (gI σM 12 0 5) b q) ^ k) := rL_s
  have z1 := zA_18 hza rfl r3.1 r3.2.1
  have z2 := zA_18 hzb rfl s3.1 s3.2.1
  have t1 := oCnt_tot hza
  have t2 := oCnt_tot hzb
  have ml1 := r3.2.1
  have ml2 := s3.2.1
  simp only [g1, g2, g3, g4, g5, g6, if_true, Bool.and_self]
  rw [show F11_setRival σC 0 (nI a) (nI p) (nI k) = _ from r1, bd_some, show F11_setRival σ1 1 (nI b) (nI q) (nI k) = _ from s1, bd_some]
  rw [show F12_sumUp (mS σM) (nI a) (nI p) (nI k) 12 0 9 101 = _ from m1, bd_some, m_waysOf m4' (by omega) hk, Option.bind_some, bnd_eq, show F12_sumUp _ (nI b) (nI q) (nI k) 12 0 10 101 = _ from n1, bd_some, m_waysOf n4' (by omega) hk, Option.bind_some, bnd_eq, m_turnsL hw W1 W2, Option.bind_some, Q1, Q2]
  have al0 : ald 4 id (0 : Int32) = some 0 := ald_nI (k := 0) (by omega) (by omega)
  have al1 : ald 4 id (1 : Int32) = some 1 := ald_nI (k := 1) (by omega) (by omega)
  simp only [al0, al1, Option.bind_some, bnd_eq, c_above wA wB, c_above wB wA, c_allWays wA, c_allWays wB, lN_mul]
  change ShOk (zR (gI σM 12 0 5) a p) at hza
  generalize zR (gI σM 12 0 5) a p = za at *
  generalize zR (gI σM 12 0 5) b q = zb at *
  obtain ⟨u1, u2, u3, u4⟩ := turns_num (f := oCnt za) (g := oCnt zb) (a := l1) (b := l2) hk
  rw [t1, t2] at u3 u4
  rw [u1, u2, u3]
  have p1 : l1 ^ k * oAll za ^ k ≤ 18 ^ 5 := by
    rw [← Nat.mul_pow]
    exact Nat.le_trans (Nat.pow_le_pow_left z1.2.2 k) (Nat.pow_le_pow_right (by omega) hk)
  have p2 : l2 ^ k * oAll zb ^ k ≤ 18 ^ 5 := by
    rw [← Nat.mul_pow]
    exact Nat.le_trans (Nat.pow_le_pow_left z2.2.2 k) (Nat.pow_le_pow_right (by omega) hk)
  have p3 : l1 ^ k * l2 ^ k * (oAll za ^ k * oAll zb ^ k) ≤ 18 ^ 5 * 18 ^ 5 := by
    rw [Nat.mul_mul_mul_comm]; exact Nat.mul_le_mul p1 p2
  have q1 : 1 ≤ l1 ^ k := Nat.pow_pos (by omega)
  have q2 : 1 ≤ l2 ^ k := Nat.pow_pos (by omega)
  have q3 : 1 ≤ oAll za ^ k := Nat.pow_pos (by omega)
  have q4 : 1 ≤ oAll zb ^ k := Nat.pow_pos (by omega)
  have q5 : 1 * 1 ≤ l1 ^ k * l2 ^ k := Nat.mul_le_mul q1 q2
  have q6 : 1 * 1 ≤ oAll za ^ k * oAll zb ^ k := Nat.mul_le_mul q3 q4
  have E0 := prs_0 (wy (oCnt za) k) (wy (oCnt zb) k)
  have E2 := prs_2 (wy (oCnt za) k) (wy (oCnt zb) k)
  generalize hE1 : su 101 (fun v => su 101 (fun u => if prs 1 v u = true then wy (oCnt za) k v * wy (oCnt zb) k u else 0)) = E at *
  generalize abv (wy (oCnt za) k) (wy (oCnt zb) k) = X at *
  generalize abv (wy (oCnt zb) k) (wy (oCnt za) k) = Y at *
  generalize oAll za ^ k * oAll zb ^ k = D at *
  generalize l1 ^ k * l2 ^ k = L at *
  have b1 : L * X ≤ L * D := Nat.mul_le_mul_left _ (by omega)
  have b2 : L * Y ≤ L * D := Nat.mul_le_mul_left _ (by omega)
  have b3 : L * E ≤ L * D := Nat.mul_le_mul_left _ (by omega)
  have b0 : D ≤ L * D := Nat.le_mul_of_pos_left D (by omega)
  have eLE : L * D - L * X - L * Y = L * E := by
    rw [← u4, Nat.mul_add, Nat.mul_add]; omega
  have eLX : L * Y ≤ L * D - L * X := by
    rw [← u4, Nat.mul_add, Nat.mul_add]; omega
  rcases (show w = 0 ∨ w = 1 ∨ w = 2 by omega) with rfl | rfl | rfl
  · rw [if_pos nI_z, tell_63 (by omega) (by omega) (by omega) (by omega), bd_some, agr_eq, bd_some, E0, frac_63 (by omega) (by omega) (by omega), bd_some]
    exact ⟨_, _, _, rfl, rfl, h.tel F g _ _⟩
  · rw [if_neg (by decide), if_pos (show nI 1 = 1 from rfl), lN_sub b1, lN_sub eLX, eLE, tell_63 (by omega) (by omega) (by omega) (by omega), bd_some, agr_eq, bd_some, hE1, frac_63 (by omega) (by omega) (by omega), bd_some]
    exact ⟨_, _, _, rfl, rfl, h.tel F g _ _⟩
  · rw [if_neg (by decide), if_neg (by decide), tell_63 (by omega) (by omega) (by omega) (by omega), bd_some, agr_eq, bd_some, E2, frac_63 (by omega) (by omega) (by omega), bd_some]
    exact ⟨_, _, _, rfl, rfl, h.tel F g _ _⟩
end TUR
