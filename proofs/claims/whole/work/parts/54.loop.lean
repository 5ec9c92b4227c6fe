/-! PURE. Loops, frames, the fraction. -/
theorem loopG {S ρ : Type} {L : Nat → S → Option ρ} {N : Nat} {Inv : Nat → S → Prop} {Post : ρ → Prop}
    (h : ∀ n i s, i ≤ N → Inv i s → (∃ r, L (n + 1) s = some r ∧ Post r) ∨ (i < N ∧ ∃ s', L (n + 1) s = L n s' ∧ Inv (i + 1) s')) :
    ∀ k n i s, i + k = N → k < n → Inv i s → ∃ r, L n s = some r ∧ Post r := by
  intro k
  induction k with
  | zero =>
    intro n i s hi hn hI
    obtain ⟨m, rfl⟩ : ∃ m, n = m + 1 := ⟨n - 1, by omega⟩
    rcases h m i s (by omega) hI with h1 | ⟨h1, -⟩
    · exact h1
    · omega
  | succ k ih =>
    intro n i s hi hn hI
    obtain ⟨m, rfl⟩ : ∃ m, n = m + 1 := ⟨n - 1, by omega⟩
    rcases h m i s (by omega) hI with h1 | ⟨h1, s', h2, h3⟩
    · exact h1
    · obtain ⟨r, h4, h5⟩ := ih m (i + 1) s' (by omega) (by omega) h3
      exact ⟨r, h2.trans h4, h5⟩
theorem fuelK_lt {k : Nat} (h : k < 1100000) : k < fuelK := Nat.lt_of_lt_of_le h fuel_big
theorem nI_lit (n a : Nat) : (OfNat.ofNat n : Int32) + nI a = nI (n + a) := nI_add n a
theorem nI_num (n : Nat) : (OfNat.ofNat n : Int32) = nI n := rfl
/-- of the class's heap all kinds but S are the same -/
def FC (S : List Nat) (σ σ' : Mem) : Prop := ∀ a, a ∉ S → σ'.1 a = σ.1 a ∧ σ'.2.1 a = σ.2.1 a ∧ σ'.2.2.1 a = σ.2.2.1 a ∧ σ'.2.2.2 a = σ.2.2.2 a
section FRC
variable {S S' : List Nat} {σ σ1 σ2 : Mem} {a b c : Nat}
theorem FC.z : FC S σ σ := fun _ _ => ⟨rfl, rfl, rfl, rfl⟩
theorem FC.t (h : FC S σ σ1) (k : FC S σ1 σ2) : FC S σ σ2 := fun a ha => by
  obtain ⟨h1, h2, h3, h4⟩ := h a ha
  obtain ⟨k1, k2, k3, k4⟩ := k a ha
  exact ⟨k1.trans h1, k2.trans h2, k3.trans h3, k4.trans h4⟩
theorem FC.m (h : FC S σ σ1) (hs : ∀ a, a ∈ S → a ∈ S') : FC S' σ σ1 := fun a ha => h a (fun h1 => ha (hs a h1))
theorem FC.I {f} (h : a ∈ S) : FC S σ (sIf σ a b c f) := fun a' ha => by
  have : a' ≠ a := fun e => ha (e ▸ h)
  refine ⟨?_, rfl, rfl, rfl⟩
  funext b' c'; simp [sIf, this]
theorem FC.L {f} (h : a ∈ S) : FC S σ (sLf σ a b c f) := fun a' ha => by
  have : a' ≠ a := fun e => ha (e ▸ h)
  refine ⟨rfl, ?_, rfl, rfl⟩
  funext b' c'; simp [sLf, this]
theorem FC.B {f} (h : a ∈ S) : FC S σ (sBf σ a b c f) := fun a' ha => by
  have : a' ≠ a := fun e => ha (e ▸ h)
  refine ⟨rfl, rfl, ?_, rfl⟩
  funext b' c'; simp [sBf, this]
theorem FC.R {f} (h : a ∈ S) : FC S σ (sRf σ a b c f) := fun a' ha => by
  have : a' ≠ a := fun e => ha (e ▸ h)
  refine ⟨rfl, rfl, rfl, ?_⟩
  funext b' c'; simp [sRf, this]
theorem FC.fI (h : FC S σ σ1) (a b c : Nat) (ha : a ∉ S) : gI σ1 a b c = gI σ a b c := by simp only [gI, (h a ha).1]
theorem FC.fL (h : FC S σ σ1) (a b c : Nat) (ha : a ∉ S) : gL σ1 a b c = gL σ a b c := by simp only [gL, (h a ha).2.1]
theorem FC.fB (h : FC S σ σ1) (a b c : Nat) (ha : a ∉ S) : gB σ1 a b c = gB σ a b c := by simp only [gB, (h a ha).2.2.1]
theorem FC.fR (h : FC S σ σ1) (a b c : Nat) (ha : a ∉ S) : gR σ1 a b c = gR σ a b c := by simp only [gR, (h a ha).2.2.2]
theorem FC.pc (h : FC S σ σ1) (h4 : 4 ∉ S) (h5 : 5 ∉ S) (h7 : 7 ∉ S) (h8 : 8 ∉ S) (h9 : 9 ∉ S) (h10 : 10 ∉ S) (h11 : 11 ∉ S) : PC σ1 = PC σ := by
  simp only [PC, TY, gI, gL, gB, h 4 h4, h 5 h5, h 7 h7, h 8 h8, h 9 h9, h 10 h10, h 11 h11]
theorem FC.pc1 (h : FC [0, 1, 2, 6] σ σ1) : PC σ1 = PC σ := h.pc (by decide) (by decide) (by decide) (by decide) (by decide) (by decide) (by decide)
end FRC
/-- of the model's heap all is the same but the ints I, the longs L, the rows P -/
def FM (I L P : List Nat) (σ σ' : Mem) : Prop := (∀ k, k ∉ I → gI σ' 12 0 0 k = gI σ 12 0 0 k) ∧ (∀ k, k ∉ L → gL σ' 12 0 0 k = gL σ 12 0 0 k) ∧ gB σ' 12 0 0 = gB σ 12 0 0 ∧ (∀ p, p ∉ P → p ≠ 0 → gI σ' 12 0 p = gI σ 12 0 p ∧ gL σ' 12 0 p = gL σ 12 0 p)
section FRM
variable {i l q i' l' q' : List Nat} {σ σ1 σ2 : Mem}
theorem FM.z : FM i l q σ σ := ⟨fun _ _ => rfl, fun _ _ => rfl, rfl, fun _ _ _ => ⟨rfl, rfl⟩⟩
theorem FM.t (h : FM i l q σ σ1) (k : FM i l q σ1 σ2) : FM i l q σ σ2 :=
  ⟨fun z hz => (k.1 z hz).trans (h.1 z hz), fun z hz => (k.2.1 z hz).trans (h.2.1 z hz), k.2.2.1.trans h.2.2.1, fun p hp h0 => ⟨(k.2.2.2 p hp h0).1.trans (h.2.2.2 p hp h0).1, (k.2.2.2 p hp h0).2.trans (h.2.2.2 p hp h0).2⟩⟩
theorem FM.m (h : FM i l q σ σ1) (hi : ∀ k, k ∈ i → k ∈ i') (hl : ∀ k, k ∈ l → k ∈ l') (hp : ∀ k, k ∈ q → k ∈ q') : FM i' l' q' σ σ1 :=
  ⟨fun k hk => h.1 k (fun h1 => hk (hi k h1)), fun k hk => h.2.1 k (fun h1 => hk (hl k h1)), h.2.2.1, fun k hk => h.2.2.2 k (fun h1 => hk (hp k h1))⟩
theorem FM.I {k : Nat} {v : Int32} (h : k ∈ i) : FM i l q σ (sI σ 12 0 0 k v) := by
  refine ⟨fun z hz => ?_, fun _ _ => rfl, rfl, fun p _ h0 => ⟨?_, rfl⟩⟩
  · have : z ≠ k := fun e => hz (e ▸ h)
    simp [sIf, gI, upd, this]
  · simp [sIf, gI, h0]
theorem FM.L {k : Nat} {v : Int64} (h : k ∈ l) : FM i l q σ (sL σ 12 0 0 k v) := by
  refine ⟨fun _ _ => rfl, fun z hz => ?_, rfl, fun p _ h0 => ⟨rfl, ?_⟩⟩
  · have : z ≠ k := fun e => hz (e ▸ h)
    simp [sLf, gL, vp_updL, this]
  · simp [sLf, gL, h0]
theorem FM.PI {p : Nat} {f} (h : p ∈ q) (h0 : p ≠ 0) : FM i l q σ (sIf σ 12 0 p f) := by
  refine ⟨fun z hz => ?_, fun _ _ => rfl, rfl, fun p' hp' _ => ⟨?_, rfl⟩⟩
  · simp [sIf, gI, Ne.symm h0]
  · have : p' ≠ p := fun e => hp' (e ▸ h)
    simp [sIf, gI, this]
theorem FM.PL {p : Nat} {f} (h : p ∈ q) (h0 : p ≠ 0) : FM i l q σ (sLf σ 12 0 p f) := by
  refine ⟨fun _ _ => rfl, fun z hz => ?_, rfl, fun p' hp' _ => ⟨rfl, ?_⟩⟩
  · simp [sLf, gL, Ne.symm h0]
  · have : p' ≠ p := fun e => hp' (e ▸ h)
    simp [sLf, gL, this]
theorem FM.c (h : FM i l q σ σ1) (hp : 5 ∉ q) : gI σ1 12 0 5 = gI σ 12 0 5 := (h.2.2.2 5 hp (by decide)).1
theorem FM.pm (h : FM i l q σ σ1) (hi : 8 ∉ i ∧ 10 ∉ i ∧ 11 ∉ i ∧ 23 ∉ i) (hp : 1 ∉ q ∧ 2 ∉ q ∧ 3 ∉ q ∧ 4 ∉ q ∧ 5 ∉ q ∧ 7 ∉ q ∧ 12 ∉ q) : PM σ1 = PM σ := by
  obtain ⟨i1, i2, i3, i4⟩ := hi
  obtain ⟨p1, p2, p3, p4, p5, p7, p12⟩ := hp
  exact PM_of (h.2.2.2 1 p1 (by decide)).1 (h.2.2.2 2 p2 (by decide)).1 (h.2.2.2 3 p3 (by decide)).2 (h.2.2.2 4 p4 (by decide)).1 (h.2.2.2 5 p5 (by decide)).1 (h.2.2.2 7 p7 (by decide)).2 (h.2.2.2 12 p12 (by decide)).1 (h.1 8 i1) (h.1 10 i2) (h.1 11 i3) (h.1 23 i4) (by rw [h.2.2.1])
end FRM
/-! the fraction -/
def frT (t b : Int) : Int64 := Int64.ofInt (t / (Int.gcd t b : Int))
def frB (t b : Int) : Int64 := Int64.ofInt (b / (Int.gcd t b : Int))
theorem lRem_nat {x y : Int64} (hx : 0 ≤ x.toInt) (hy : 0 < y.toInt) : (lRem x y).toInt = x.toInt % y.toInt := by
  have hx2 := x.toInt_lt
  have h1 : (x / y).toInt = x.toInt / y.toInt := by
    rw [Int64.toInt_div, Int.tdiv_eq_ediv_of_nonneg hx, bm64]
    · have := Int.ediv_nonneg hx (Int.le_of_lt hy); omega
    · have := Int.ediv_le_self y.toInt hx; omega
  have h2 : x.toInt / y.toInt * y.toInt ≤ x.toInt := Int.ediv_mul_le x.toInt (by omega)
  have h3 : 0 ≤ x.toInt / y.toInt * y.toInt := Int.mul_nonneg (Int.ediv_nonneg hx (Int.le_of_lt hy)) (Int.le_of_lt hy)
  have h4 : (x / y * y).toInt = x.toInt / y.toInt * y.toInt := by rw [i64_mul] <;> rw [h1] <;> omega
  have h5 := Int.emod_add_mul_ediv x.toInt y.toInt
  rw [Int.mul_comm] at h5
  rw [lRem, i64_sub] <;> rw [h4] <;> omega
theorem gcd_step {a b : Int} (ha : 0 ≤ a) (hb : 0 < b) : Int.gcd b (a % b) = Int.gcd a b := by
  obtain ⟨m, rfl⟩ := Int.eq_ofNat_of_zero_le ha
  obtain ⟨n, rfl⟩ := Int.eq_ofNat_of_zero_le (Int.le_of_lt hb)
  rw [← Int.natCast_emod]
  simp only [Int.gcd, Int.natAbs_natCast]
  rw [Nat.gcd_comm n, ← Nat.gcd_rec, Nat.gcd_comm]
theorem i64_gcd0 {a : Int64} (ha : 0 ≤ a.toInt) : a = Int64.ofInt (Int.gcd a.toInt 0 : Int) := by
  rw [Int.gcd_zero_right, Int.natAbs_of_nonneg ha, Int64.ofInt_toInt]
theorem cd_loop {σ : Mem} : ∀ k n (a b : Int64) (i : Nat), 0 ≤ a.toInt → 0 ≤ b.toInt → b.toInt < 2 ^ k → i + 2 * k < 130 → 2 * k < n → F11_commonDivisor_L9 σ n a b (nI i) = some (Int64.ofInt (Int.gcd a.toInt b.toInt)) := by
  intro k
  induction k with
  | zero =>
    intro n a b i ha hb hb2 hi hn
    obtain ⟨m, rfl⟩ : ∃ m, n = m + 1 := ⟨n - 1, by omega⟩
    have h0 : b = 0 := i64_eq.mpr (show b.toInt = 0 by omega)
    subst h0
    simp only [F11_commonDivisor_L9.eq_2]
    rw [if_neg (by rw [nI_num 130, nI_leI (by omega) (by omega)]; omega), if_pos trivial]
    exact congrArg some (i64_gcd0 ha)
  | succ k ih =>
    intro n a b i ha hb hb2 hi hn
    obtain ⟨m, rfl⟩ : ∃ m, n = m + 1 := ⟨n - 1, by omega⟩
    simp only [F11_commonDivisor_L9.eq_2]
    rw [if_neg (by rw [nI_num 130, nI_leI (by omega) (by omega)]; omega)]
    by_cases h0 : b = 0
    · subst h0
      rw [if_pos rfl]
      exact congrArg some (i64_gcd0 ha)
    have h1 : 0 < b.toInt := by
      have : b.toInt ≠ 0 := fun e => h0 (i64_eq.mpr (show b.toInt = (0 : Int64).toInt from e))
      omega
    rw [if_neg h0, if_neg h0, bnd_eq, nI_1, ← gcd_step ha h1, ← lRem_nat ha h1]
    have r1 := lRem_nat ha h1
    have r2 := Int.emod_lt_of_pos a.toInt h1
    have r3 := Int.emod_nonneg a.toInt (show b.toInt ≠ 0 by omega)
    generalize hr : lRem a b = r at *
    obtain ⟨m', rfl⟩ : ∃ m', m = m' + 1 := ⟨m - 1, by omega⟩
    simp only [F11_commonDivisor_L9.eq_2]
    rw [if_neg (by rw [nI_num 130, nI_leI (by omega) (by omega)]; omega)]
    by_cases h2 : r = 0
    · subst h2
      rw [if_pos rfl]
      exact congrArg some (i64_gcd0 hb)
    have h3 : 0 < r.toInt := by
      have : r.toInt ≠ 0 := fun e => h2 (i64_eq.mpr (show r.toInt = (0 : Int64).toInt from e))
      omega
    rw [if_neg h2, if_neg h2, bnd_eq, nI_1, ← gcd_step hb h3, ← lRem_nat hb h3]
    have q1 := lRem_nat hb h3
    have q2 := Int.emod_lt_of_pos b.toInt h3
    have q3 := Int.emod_nonneg b.toInt (show r.toInt ≠ 0 by omega)
    have q4 := Int.emod_add_mul_ediv b.toInt r.toInt
    have q5 : 1 ≤ b.toInt / r.toInt := by
      have := Int.ediv_le_ediv h3 (show r.toInt ≤ b.toInt by omega)
      rw [Int.ediv_self (by omega)] at this; exact this
    have q6 : r.toInt * 1 ≤ r.toInt * (b.toInt / r.toInt) := Int.mul_le_mul_of_nonneg_left q5 (by omega)
    exact ih m' r (lRem b r) (i + 1 + 1) (by omega) (by omega) (by rw [q1]; rw [Int.pow_succ] at hb2; omega) (by omega) (by omega)
theorem fr_loop {σ : Mem} {y1 y3 : Int64} : ∀ k n (a b : Int64), 0 ≤ a.toInt → 0 ≤ b.toInt → b.toInt < 2 ^ k → 2 * k < n → F12_fraction_L9 σ y1 y3 n a b = some (Int64.ofInt (Int.gcd a.toInt b.toInt)) := by
  intro k
  induction k with
  | zero =>
    intro n a b ha hb hb2 hn
    obtain ⟨m, rfl⟩ : ∃ m, n = m + 1 := ⟨n - 1, by omega⟩
    have h0 : b = 0 := i64_eq.mpr (show b.toInt = 0 by omega)
    subst h0
    simp only [F12_fraction_L9.eq_2]
    rw [if_pos trivial]
    exact congrArg some (i64_gcd0 ha)
  | succ k ih =>
    intro n a b ha hb hb2 hn
    obtain ⟨m, rfl⟩ : ∃ m, n = m + 1 := ⟨n - 1, by omega⟩
    simp only [F12_fraction_L9.eq_2]
    by_cases h0 : b = 0
    · subst h0
      rw [if_pos rfl]
      exact congrArg some (i64_gcd0 ha)
    have h1 : 0 < b.toInt := by
      have : b.toInt ≠ 0 := fun e => h0 (i64_eq.mpr (show b.toInt = (0 : Int64).toInt from e))
      omega
    rw [if_neg h0, if_neg h0, bnd_eq, ← gcd_step ha h1, ← lRem_nat ha h1]
    have r1 := lRem_nat ha h1
    have r2 := Int.emod_lt_of_pos a.toInt h1
    have r3 := Int.emod_nonneg a.toInt (show b.toInt ≠ 0 by omega)
    generalize hr : lRem a b = r at *
    obtain ⟨m', rfl⟩ : ∃ m', m = m' + 1 := ⟨m - 1, by omega⟩
    simp only [F12_fraction_L9.eq_2]
    by_cases h2 : r = 0
    · subst h2
      rw [if_pos rfl]
      exact congrArg some (i64_gcd0 hb)
    have h3 : 0 < r.toInt := by
      have : r.toInt ≠ 0 := fun e => h2 (i64_eq.mpr (show r.toInt = (0 : Int64).toInt from e))
      omega
    rw [if_neg h2, if_neg h2, bnd_eq, ← gcd_step hb h3, ← lRem_nat hb h3]
    have q1 := lRem_nat hb h3
    have q2 := Int.emod_lt_of_pos b.toInt h3
    have q3 := Int.emod_nonneg b.toInt (show r.toInt ≠ 0 by omega)
    have q4 := Int.emod_add_mul_ediv b.toInt r.toInt
    have q5 : 1 ≤ b.toInt / r.toInt := by
      have := Int.ediv_le_ediv h3 (show r.toInt ≤ b.toInt by omega)
      rw [Int.ediv_self (by omega)] at this; exact this
    have q6 : r.toInt * 1 ≤ r.toInt * (b.toInt / r.toInt) := Int.mul_le_mul_of_nonneg_left q5 (by omega)
    exact ih m' r (lRem b r) (by omega) (by omega) (by rw [q1]; rw [Int.pow_succ] at hb2; omega) (by omega)
theorem lAbs_nat {x : Int64} (h : -9223372036854775808 < x.toInt) : (lAbs x).toInt = x.toInt.natAbs := by
  unfold lAbs
  by_cases h0 : 0 < x
  · rw [if_pos h0]
    have : 0 < x.toInt := i64_lt.mp h0
    omega
  · rw [if_neg h0, i64_neg h]
    have : ¬ 0 < x.toInt := fun e => h0 (i64_lt.mpr e)
    omega
theorem i64_divx {y v : Int64} {g : Int} (hv : v.toInt = g) (h : g ∣ y.toInt) : y / v = Int64.ofInt (y.toInt / g) := by
  rw [i64_eq, Int64.toInt_div, Int64.toInt_ofInt, hv, Int.tdiv_eq_ediv_of_dvd h]
theorem fr_gcd {t b : Int64} (hb : 0 < b.toInt) : (Int64.ofInt (Int.gcd (t.toInt.natAbs : Int) b.toInt)).toInt = (Int.gcd t.toInt b.toInt : Int) ∧ 0 < Int.gcd t.toInt b.toInt := by
  have h1 : Int.gcd (t.toInt.natAbs : Int) b.toInt = Int.gcd t.toInt b.toInt := by simp [Int.gcd]
  have h2 : 0 < Int.gcd t.toInt b.toInt := Int.gcd_pos_of_ne_zero_right _ (by omega)
  have h3 : Int.gcd t.toInt b.toInt ≤ b.toInt.natAbs := Nat.le_of_dvd (by omega) (Nat.gcd_dvd_right _ _)
  have h4 := b.toInt_lt
  refine ⟨?_, h2⟩
  rw [h1, Int64.toInt_ofInt, bm64] <;> omega
theorem tell_eq {σ : Mem} {t b : Int64} (ht : -9223372036854775808 < t.toInt) (hb : 0 < b.toInt) : F11_tell σ t b = some ((), sL (sL σ 11 0 0 1 (frT t.toInt b.toInt)) 11 0 0 2 (frB t.toInt b.toInt)) := by
  have hd : F11_commonDivisor σ (lAbs t) b = some (Int64.ofInt (Int.gcd (t.toInt.natAbs : Int) b.toInt)) := by
    rw [F11_commonDivisor, show (0 : Int32) = nI 0 from rfl, cd_loop 63 _ _ _ 0 (by rw [lAbs_nat ht]; omega) (by omega) (by have := b.toInt_lt; omega) (by omega) (fuelK_lt (by omega)), lAbs_nat ht, Option.bind_some]
  obtain ⟨g1, g2⟩ := fr_gcd (t := t) hb
  rw [F11_tell, hd, Option.bind_some]
  generalize Int64.ofInt (Int.gcd (t.toInt.natAbs : Int) b.toInt) = v at *
  have hv : ¬ v = 0 := fun e => by subst e; have : (0 : Int64).toInt = 0 := rfl; omega
  have hv2 : 0 < v := i64_lt.mpr (by rw [g1]; show (0 : Int) < _; omega)
  by_cases h0 : t = 0
  · subst h0
    rw [if_pos rfl]
    have e1 : frT (0 : Int64).toInt b.toInt = 0 := by simp [frT]
    have e2 : frB (0 : Int64).toInt b.toInt = 1 := by
      have : (Int.gcd (0 : Int64).toInt b.toInt : Int) = b.toInt := by
        show ((Int.gcd 0 b.toInt : Nat) : Int) = _
        rw [Int.gcd_zero_left]; omega
      rw [frB, this, Int.ediv_self (by omega)]; rfl
    rw [e1, e2]; rfl
  · simp only [h0, hv2, hv, if_true, if_false, bnd_eq]
    rw [i64_divx g1 (Int.gcd_dvd_left ..), i64_divx g1 (Int.gcd_dvd_right ..)]
    rfl
theorem frac_eq {σ : Mem} {t b : Int64} (ht : -9223372036854775808 < t.toInt) (hb : 0 < b.toInt) : F12_fraction σ t b = some (true, sL (sL σ 12 0 0 2 (frT t.toInt b.toInt)) 12 0 0 3 (frB t.toInt b.toInt)) := by
  have hd : F12_fraction_L9 σ t b fuelK (lAbs t) b = some (Int64.ofInt (Int.gcd (t.toInt.natAbs : Int) b.toInt)) := by
    rw [fr_loop 63 _ _ _ (by rw [lAbs_nat ht]; omega) (by omega) (by have := b.toInt_lt; omega) (fuelK_lt (by omega)), lAbs_nat ht]
  obtain ⟨g1, g2⟩ := fr_gcd (t := t) hb
  rw [F12_fraction, bnd_eq, hd, Option.bind_some]
  generalize Int64.ofInt (Int.gcd (t.toInt.natAbs : Int) b.toInt) = v at *
  have hv : ¬ v = 0 := fun e => by subst e; have : (0 : Int64).toInt = 0 := rfl; omega
  simp only [hv, if_false, bnd_eq]
  rw [i64_divx g1 (Int.gcd_dvd_left ..), i64_divx g1 (Int.gcd_dvd_right ..)]
  rfl
theorem frT_mul {l t b : Int} (hl : 0 < l) (hb : 0 < b) : frT (l * t) (l * b) = frT t b := by
  have hg : 0 < Int.gcd t b := Int.gcd_pos_of_ne_zero_right _ (by omega)
  rw [frT, frT, Int.gcd_mul_left, Int.natCast_mul, Int.natAbs_of_nonneg (by omega), Int.mul_ediv_mul_of_pos _ _ hl]
theorem frB_mul {l t b : Int} (hl : 0 < l) (hb : 0 < b) : frB (l * t) (l * b) = frB t b := by
  rw [frB, frB, Int.gcd_mul_left, Int.natCast_mul, Int.natAbs_of_nonneg (by omega), Int.mul_ediv_mul_of_pos _ _ hl]
