/-! PURE. The ways to so many points in several shots. -/
theorem su_ext {f : Nat → Nat} {m : Nat} : ∀ n, m ≤ n → (∀ k, m ≤ k → k < n → f k = 0) → su n f = su m f := by
  intro n
  induction n with
  | zero => intro h _; rw [show m = 0 by omega]
  | succ n ih =>
    intro h hk
    by_cases e : m = n + 1
    · rw [e]
    · rw [su_s, hk n (by omega) (by omega), Nat.add_zero]
      exact ih (by omega) (fun k h1 h2 => hk k h1 (by omega))
theorem su_zero : ∀ n, su n (fun _ => 0) = 0 := by
  intro n
  rw [su_const]; omega
theorem su_delta {g : Nat → Nat} {a : Nat} : ∀ n, su n (fun v => if v = a then g v else 0) = if a < n then g a else 0 := by
  intro n
  induction n with
  | zero => rfl
  | succ n ih =>
    rw [su_s, ih]
    by_cases h : n = a
    · subst h; simp
    · by_cases h2 : a < n
      · simp [h, h2, show a < n + 1 by omega]
      · simp [h, h2, show ¬ a < n + 1 by omega]
theorem su_shift {g : Nat → Nat} {i : Nat} : ∀ n, su n (fun u => if i ≤ u then g (u - i) else 0) = su (n - i) g := by
  intro n
  induction n with
  | zero => rw [Nat.zero_sub]; rfl
  | succ n ih =>
    rw [su_s, ih]
    by_cases h : i ≤ n
    · rw [if_pos h, show n + 1 - i = (n - i) + 1 by omega, su_s]
    · rw [if_neg h, show n + 1 - i = 0 by omega, show n - i = 0 by omega]; rfl
theorem su_single {f : Nat → Nat} {k : Nat} : ∀ n, k < n → f k ≤ su n f := by
  intro n
  induction n with
  | zero => intro h; omega
  | succ n ih =>
    intro h
    rw [su_s]
    by_cases e : k = n
    · subst e; omega
    · have := ih (by omega); omega
/-- in how many ways k shots come to v points, one in f i ways to i -/
def wy (f : Nat → Nat) : Nat → Nat → Nat
  | 0 => fun v => one 0 v
  | k + 1 => fun v => su 21 (fun i => if i ≤ v then wy f k (v - i) * f i else 0)
theorem wy_hi {f : Nat → Nat} : ∀ k v, 20 * k < v → wy f k v = 0 := by
  intro k
  induction k with
  | zero => intro v h; exact one_n (by omega)
  | succ k ih =>
    intro v h
    have : (fun i => if i ≤ v then wy f k (v - i) * f i else 0) = fun i => if i ≤ v ∧ v - i ≤ 20 * k then wy f k (v - i) * f i else 0 := by
      funext i
      by_cases h1 : i ≤ v
      · by_cases h2 : v - i ≤ 20 * k
        · simp [h1, h2]
        · simp [h1, h2, ih (v - i) (by omega)]
      · simp [h1]
    show su 21 (fun i => if i ≤ v then wy f k (v - i) * f i else 0) = 0
    rw [this, su_congr (g := fun _ => 0) 21 (fun i hi => if_neg (by omega)), su_zero]
theorem wy_mul {f : Nat → Nat} {l : Nat} : ∀ k v, wy (fun i => l * f i) k v = l ^ k * wy f k v := by
  intro k
  induction k with
  | zero => intro v; simp [wy]
  | succ k ih =>
    intro v
    show su 21 (fun i => if i ≤ v then wy (fun i => l * f i) k (v - i) * (l * f i) else 0) = l ^ (k + 1) * su 21 (fun i => if i ≤ v then wy f k (v - i) * f i else 0)
    rw [← su_mul]
    refine su_congr 21 (fun i _ => ?_)
    split
    · rw [ih, Nat.pow_succ, Nat.mul_mul_mul_comm]
    · rfl
theorem wy_tot {f : Nat → Nat} : ∀ k n, 20 * k < n → su n (wy f k) = (su 21 f) ^ k := by
  intro k
  induction k with
  | zero =>
    intro n h
    rw [Nat.pow_zero, show wy f 0 = fun v => one 0 v from rfl]
    have : (fun v => one 0 v) = fun v => if v = 0 then 1 else 0 := by
      funext v; unfold one
      by_cases e : v = 0
      · subst e; rfl
      · rw [if_neg (fun e2 => e e2.symm), if_neg e]
    rw [this, su_delta, if_pos (by omega)]
  | succ k ih =>
    intro n h
    show su n (fun v => su 21 (fun i => if i ≤ v then wy f k (v - i) * f i else 0)) = _
    rw [su_swap, Nat.pow_succ]
    have : ∀ i, i < 21 → su n (fun v => if i ≤ v then wy f k (v - i) * f i else 0) = (su 21 f) ^ k * f i := by
      intro i hi
      have e : (fun v => if i ≤ v then wy f k (v - i) * f i else 0) = fun v => f i * (if i ≤ v then wy f k (v - i) else 0) := by
        funext v; split
        · rw [Nat.mul_comm]
        · rfl
      rw [e, su_mul, su_shift, ih _ (by omega), Nat.mul_comm]
    rw [su_congr 21 this, su_mul]
theorem wy_le {f : Nat → Nat} {M k : Nat} (hf : su 21 f ≤ M) (v : Nat) : wy f k v ≤ M ^ k := by
  have h1 := su_single (f := wy f k) (k := v) (20 * k + v + 1) (by omega)
  have h2 := wy_tot (f := f) k (20 * k + v + 1) (by omega)
  have h3 := Nat.pow_le_pow_left hf k
  omega
/-- put together by where they come to -/
theorem scat_eq {s f : Nat → Nat} {M u : Nat} (h : ∀ v, M ≤ v → s v = 0) : su M (fun v => su 21 (fun w => if v + w = u then s v * f w else 0)) = su 21 (fun i => if i ≤ u then s (u - i) * f i else 0) := by
  rw [su_swap]
  refine su_congr 21 (fun i _ => ?_)
  by_cases hi : i ≤ u
  · have : (fun v => if v + i = u then s v * f i else 0) = fun v => if v = u - i then s v * f i else 0 := by
      funext v
      by_cases e : v + i = u
      · rw [if_pos e, if_pos (by omega)]
      · rw [if_neg e, if_neg (by omega)]
    rw [this, su_delta, if_pos hi]
    split
    · rfl
    · rw [h (u - i) (by omega), Nat.zero_mul]
  · rw [if_neg hi, su_congr (g := fun _ => 0) M (fun v _ => if_neg (by omega)), su_zero]
theorem oCnt_tot {z : ShN} (hz : ShOk z) : su 21 (oCnt z) = oAll z := by
  unfold oCnt oAll
  by_cases hf : zFate z = 0
  · simp only [hf, if_true]
    rw [s3_su]
    have : ∀ a b t, su 21 (fun v => one (zP z a b t) v) = 1 := by
      intro a b t
      have hp := pt_le hz.1 (zX z) (zY z) (sDrop (zTime z)) (zOff z) (zN z) a b t
      have e : (fun v => one (zP z a b t) v) = fun v => if v = zP z a b t then 1 else 0 := by
        funext v; unfold one
        by_cases e : v = zP z a b t
        · rw [if_pos e, if_pos e.symm]
        · rw [if_neg e, if_neg (fun e2 => e e2.symm)]
      rw [e, su_delta, if_pos (by unfold zP; omega)]
    rw [s3_congr (g := fun _ _ _ => 1) _ _ this]
    simp only [s3, su_const, Nat.mul_one, Nat.mul_assoc]
  · simp only [hf, if_false]
    rw [su_congr (g := fun v => if v = 0 then 1 else 0) 21 (fun v _ => by
      unfold one
      by_cases e : v = 0
      · subst e; rfl
      · rw [if_neg (fun e2 => e e2.symm), if_neg e]), su_delta, if_pos (by omega)]
section WAY
variable {σ σ0 : Mem} {q : Nat}
/-- only the ways of the chances q change -/
def FW (q : Nat) (σ σ' : Mem) : Prop := FC [2] σ σ' ∧ gI σ' 2 = gI σ 2 ∧ (∀ q' k, (q' ≠ q ∨ k ≠ 2) → gL σ' 2 q' k = gL σ 2 q' k)
theorem FW.z : FW q σ σ := ⟨FC.z, rfl, fun _ _ _ => rfl⟩
theorem FW.sW {σ1 : Mem} {f : Nat → Int64} (h : FW q σ σ1) : FW q σ (sLf σ1 2 q 2 f) := by
  refine ⟨FC.sL h.1 (by decide), h.2.1, fun q' k hk => ?_⟩
  rw [← h.2.2 q' k hk]
  rcases hk with e | e <;> simp [gL_sL, e]
theorem c_oneMore {f s : Nat → Nat} {v : Nat} (hv : v < 101) (h1 : ∀ i, i ≤ 20 → gI σ 2 q 1 i = nI (f i) ∧ f i < 2147483648) (h2 : ∀ u, u ≤ v → gL σ 2 q 2 u = lN (s u)) :
    F2_waysWithOneMore σ q (nI v) = some (lN (su 21 (fun i => if i ≤ v then s (v - i) * f i else 0))) := by
  have key : ∃ r, F2_waysWithOneMore_L5 σ q (nI v) fuelK 0 0 = some r ∧ r = lN (su 21 (fun i => if i ≤ v then s (v - i) * f i else 0)) := by
    refine loopG (L := fun m (w : Int64 × Int32) => F2_waysWithOneMore_L5 σ q (nI v) m w.1 w.2) (N := 21)
      (Inv := fun i w => w.2 = nI i ∧ w.1 = lN (su i (fun i => if i ≤ v then s (v - i) * f i else 0))) ?_ 21 fuelK 0 (0, 0) (by omega) (fuelK_lt (by omega)) ⟨rfl, rfl⟩
    rintro m i ⟨y, w⟩ hi ⟨e1, e2⟩
    simp only at e1 e2
    subst e1; subst e2
    simp only [F2_waysWithOneMore_L5.eq_2]
    by_cases e : i = 21
    · subst e
      exact .inl ⟨_, by rw [if_pos (by decide)], rfl⟩
    · rw [if_neg (show ¬ (20 : Int32) < nI i from nI_nlt (b := i) (a := 20) (by omega) (by omega))]
      by_cases hvi : v < i
      · rw [if_pos (nI_lt (by omega) (by omega))]
        refine .inl ⟨_, rfl, congrArg lN ?_⟩
        exact (su_ext 21 (by omega) (fun k h3 _ => if_neg (by omega))).symm
      · refine .inr ⟨by omega, ?_⟩
        rw [if_neg (nI_nlt (by omega) (by omega)), pk_sub (by omega), ald_nI (by omega) (by omega), Option.bind_some, ald_nI (by omega) (by omega), Option.bind_some, bnd_eq, h2 _ (by omega), (h1 i (by omega)).1, nI_l (h1 i (by omega)).2, lN_mul, lN_add, nI_1]
        exact ⟨(lN _, nI (i + 1)), rfl, rfl, by rw [su_s, if_pos (by omega)]⟩
  obtain ⟨r, k1, k2⟩ := key
  rw [F2_waysWithOneMore, k1, Option.bind_some, k2]
theorem c_addUp {f : Nat → Nat} {shots : Nat} (hsh : shots ≤ 5) (h1 : ∀ i, i ≤ 20 → gI σ 2 q 1 i = nI (f i) ∧ f i < 2147483648) :
    ∃ σ', F2_addUp σ q (nI shots) = some ((), σ') ∧ FW q σ σ' ∧ ∀ v, v < 101 → gL σ' 2 q 2 v = lN (wy f shots v) := by
  obtain ⟨g, k1, k2⟩ := fillL_eq (σ := σ) (a := 2) (b := q) (c := 2) (N := 101) (v := 0) (by omega)
  unfold F2_addUp
  rw [k1, bd_some, show (0 : Int32) = nI 0 from rfl, chk_nI (by omega) (by omega), bnd_eq, cl_nI (by omega)]
  have f0 : FW q σ (sL (sLf σ 2 q 2 g) 2 q 2 0 1) := FW.sW (FW.sW FW.z)
  have w0 : ∀ v, v < 101 → gL (sL (sLf σ 2 q 2 g) 2 q 2 0 1) 2 q 2 v = lN (wy f 0 v) := by
    intro v hv
    rw [rL_f, updL_eq, rL_f]
    show _ = lN (one 0 v)
    by_cases e : v = 0
    · subst e; rfl
    · rw [if_neg e, one_n e, k2 v hv]; rfl
  generalize sL (sLf σ 2 q 2 g) 2 q 2 0 1 = σ0 at *
  -- one shot more
  have row : ∀ (τ : Mem) (k : Nat) (x2 : Int32), FW q σ τ → (∀ v, v < 101 → gL τ 2 q 2 v = lN (wy f k v)) → ∃ r, F2_addUp_L25 q (nI shots) x2 fuelK τ 100 = some r ∧ FW q σ r.2 ∧ ∀ v, v < 101 → gL r.2 2 q 2 v = lN (wy f (k + 1) v) := by
    intro τ k x2 hτ hw
    refine loopG (L := fun m (w : Mem × Int32) => F2_addUp_L25 q (nI shots) x2 m w.1 w.2) (N := 101)
      (Inv := fun i w => w.2 = nI (101 - i) - 1 ∧ FW q σ w.1 ∧ ∀ v, v < 101 → gL w.1 2 q 2 v = if 101 - i ≤ v then lN (wy f (k + 1) v) else lN (wy f k v)) ?_ 101 fuelK 0 (τ, 100) (by omega) (fuelK_lt (by omega)) ⟨rfl, hτ, fun v hv => by rw [if_neg (by omega)]; exact hw v hv⟩
    rintro m i ⟨τ1, w⟩ hi ⟨e1, e2, e3⟩
    simp only at e1 e2 e3
    subst e1
    simp only [F2_addUp_L25.eq_2]
    by_cases e : i = 101
    · subst e
      exact .inl ⟨_, by rw [if_pos (by decide)], e2, fun v hv => by rw [e3 v hv, if_pos (by omega)]⟩
    · refine .inr ⟨by omega, ?_⟩
      have ep : nI (101 - i) - 1 = nI (100 - i) := by rw [show 101 - i = (100 - i) + 1 by omega, nI_pred]
      have en : nI (100 - i) + -1 = nI (101 - (i + 1)) - 1 := by rw [show 101 - (i + 1) = 100 - i by omega, Int32.sub_eq_add_neg]
      have hg : gI τ1 2 q 1 = gI σ 2 q 1 := by rw [e2.2.1]
      rw [ep, if_neg (nI_pos (by omega)), c_oneMore (f := f) (s := wy f k) (by omega) (fun i hi => by rw [hg]; exact h1 i hi) (fun u hu => by rw [e3 u (by omega), if_neg (by omega)]), Option.bind_some, chk_nI (by omega) (by omega), bnd_eq, cl_nI (by omega), en]
      have fin : ∀ τ2 : Mem, FW q σ τ2 → (∀ v, v < 101 → gL τ2 2 q 2 v = if 101 - (i + 1) ≤ v then lN (wy f (k + 1) v) else lN (wy f k v)) → ∃ s' : Mem × Int32, F2_addUp_L25 q (nI shots) x2 m τ2 (nI (101 - (i + 1)) - 1) = F2_addUp_L25 q (nI shots) x2 m s'.1 s'.2 ∧ s'.2 = nI (101 - (i + 1)) - 1 ∧ FW q σ s'.1 ∧ ∀ v, v < 101 → gL s'.1 2 q 2 v = if 101 - (i + 1) ≤ v then lN (wy f (k + 1) v) else lN (wy f k v) := fun τ2 k1 k2 => ⟨(τ2, _), rfl, rfl, k1, k2⟩
      refine fin _ (FW.sW e2) (fun v hv => ?_)
      rw [rL_f, updL_eq]
      by_cases e4 : v = 100 - i
      · rw [if_pos e4, if_pos (by omega), e4]; rfl
      · rw [if_neg e4, e3 v hv]
        by_cases e5 : 101 - i ≤ v
        · rw [if_pos e5, if_pos (by omega)]
        · rw [if_neg e5, if_neg (by omega)]
  have key : ∃ r, F2_addUp_L17 q (nI shots) fuelK σ0 0 = some r ∧ FW q σ r.2 ∧ ∀ v, v < 101 → gL r.2 2 q 2 v = lN (wy f shots v) := by
    refine loopG (L := fun m (w : Mem × Int32) => F2_addUp_L17 q (nI shots) m w.1 w.2) (N := shots)
      (Inv := fun i w => w.2 = nI i ∧ FW q σ w.1 ∧ ∀ v, v < 101 → gL w.1 2 q 2 v = lN (wy f i v)) ?_ shots fuelK 0 (σ0, 0) (by omega) (fuelK_lt (by omega)) ⟨rfl, f0, w0⟩
    rintro m i ⟨τ1, w⟩ hi ⟨e1, e2, e3⟩
    simp only at e1 e2 e3
    subst e1
    simp only [F2_addUp_L17.eq_2]
    by_cases e : i = shots
    · subst e
      exact .inl ⟨_, by rw [if_pos (Int32.le_refl _)], e2, e3⟩
    · refine .inr ⟨by omega, ?_⟩
      obtain ⟨r, r1, r2, r3⟩ := row τ1 i (nI i) e2 e3
      rw [if_neg (nI_ge (by omega) (by omega)), r1, nI_1]
      exact ⟨(r.2, nI (i + 1)), rfl, rfl, r2, r3⟩
  obtain ⟨⟨u, σ'⟩, r1, r2, r3⟩ := key
  exact ⟨σ', by rw [← nI_z] at *; rw [r1, bd_some], r2, r3⟩
end WAY
