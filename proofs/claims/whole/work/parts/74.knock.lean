/-! PURE. knock. -/
section KNO
variable {σC σM σ τ : Mem} {p : Nat}
theorem abv_le (A B : Nat → Nat) : abv A B + abv B A ≤ su 101 A * su 101 B := by
  have := prs_sum A B; omega
theorem m_bts {A B : Nat → Nat} (hA : ∀ v, v < 101 → gL τ 12 0 9 v = lN (A v)) (hB : ∀ v, v < 101 → gL τ 12 0 10 v = lN (B v)) : F12_beats_L28 τ fuelK 0 0 = some (lN (abv A B)) := by
  have inner : ∀ v y, v < 101 → F12_beats_L38 τ (nI v) fuelK (lN y) 0 = some (lN (y + su v (fun u => A v * B u))) := by
    intro v y hv
    have key : ∃ r, F12_beats_L38 τ (nI v) fuelK (lN y) 0 = some r ∧ r = lN (y + su v (fun u => A v * B u)) := by
      refine loopG (L := fun m (q : Int64 × Int32) => F12_beats_L38 τ (nI v) m q.1 q.2) (N := v)
        (Inv := fun i q => q.2 = nI i ∧ q.1 = lN (y + su i (fun u => A v * B u))) ?_ v fuelK 0 (lN y, 0) (by omega) (fuelK_lt (by omega)) ⟨rfl, rfl⟩
      rintro m i ⟨q, x⟩ hi ⟨e1, e2⟩
      simp only at e1 e2
      subst e1; subst e2
      simp only [F12_beats_L38.eq_2]
      by_cases e : i = v
      · subst e
        exact .inl ⟨_, by rw [if_pos (Int32.le_refl _)], rfl⟩
      · refine .inr ⟨by omega, ?_⟩
        rw [if_neg (nI_ge (by omega) (by omega))]
        simp (disch := omega) only [ald_nI, Option.bind_some, bnd_eq, nI_1, hA v hv, hB i (show i < 101 by omega), lN_mul, lN_add]
        exact ⟨(lN _, nI (i + 1)), rfl, rfl, congrArg lN (by rw [su_s, Nat.add_assoc])⟩
    obtain ⟨r, k1, k2⟩ := key
    rw [k1, k2]
  have key : ∃ r, F12_beats_L28 τ fuelK 0 0 = some r ∧ r = lN (su 101 (fun v => su v (fun u => A v * B u))) := by
    refine loopG (L := fun m (q : Int64 × Int32) => F12_beats_L28 τ m q.1 q.2) (N := 101)
      (Inv := fun i q => q.2 = nI i ∧ q.1 = lN (su i (fun v => su v (fun u => A v * B u)))) ?_ 101 fuelK 0 (0, 0) (by omega) (fuelK_lt (by omega)) ⟨rfl, rfl⟩
    rintro m i ⟨q, x⟩ hi ⟨e1, e2⟩
    simp only at e1 e2
    subst e1; subst e2
    simp only [F12_beats_L28.eq_2]
    by_cases e : i = 101
    · subst e
      exact .inl ⟨_, by rw [if_pos (by decide)], rfl⟩
    · refine .inr ⟨by omega, ?_⟩
      rw [if_neg (show ¬ (101 : Int32) ≤ nI i from nI_ge (a := i) (b := 101) (by omega) (by omega)), inner i _ (by omega), Option.bind_some, nI_1]
      exact ⟨(lN _, nI (i + 1)), rfl, rfl, congrArg lN (su_s i _).symm⟩
  obtain ⟨r, k1, k2⟩ := key
  rw [k1, k2]
  refine congrArg (fun z => some (lN z)) ?_
  exact su_congr _ (fun v _ => su_mul v)
/-- by how many couples of ways a beats b -/
def bt (c : Nat → Int32) (p a b : Nat) : Nat := abv (wy (oCnt (zR c a p)) 1) (wy (oCnt (zR c b p)) 1)
theorem m_beats (h : Rel σC σM) (g : FMS (mS σM) τ) {a b : Nat} (ha : a < nat (gI σM 12 0 5 6)) (hb : b < nat (gI σM 12 0 5 6)) (hp : p < nat (gI σM 12 0 5 5)) :
    ∃ τ', F12_beats τ (nI a) (nI b) (nI p) = some (lN (bt (gI σM 12 0 5) p a b), τ') ∧ FMS (mS σM) τ' := by
  have c0 : gI τ 12 0 5 = gI σM 12 0 5 := (FM.c g (by decide)).trans mS_c
  obtain ⟨σ3, m1, m2, m3, m4⟩ := m_sumUp (σ := τ) (c4 := 9) (s := a) (p := p) (shots := 1) (.inl rfl) (by omega) (by rw [c0]; exact zR_ok h.ok5 ha hp)
  rw [c0] at m3
  have c3 : gI σ3 12 0 5 = gI σM 12 0 5 := (m2.c (by decide)).trans c0
  obtain ⟨σ4, n1, n2, n3, n4⟩ := m_sumUp (σ := σ3) (c4 := 10) (s := b) (p := p) (shots := 1) (.inr rfl) (by omega) (by rw [c3]; exact zR_ok h.ok5 hb hp)
  rw [c3] at n3
  refine ⟨σ4, ?_, (FM.t g (m2.m (by decide) (by decide) (by decide))).t (n2.m (by decide) (by decide) (by decide))⟩
  unfold F12_beats
  rw [show F12_sumUp τ (nI a) (nI p) 1 12 0 9 101 = _ from m1, bd_some, show F12_sumUp σ3 (nI b) (nI p) 1 12 0 10 101 = _ from n1, bd_some, m_bts (A := wy (oCnt (zR (gI σM 12 0 5) a p)) 1) (B := wy (oCnt (zR (gI σM 12 0 5) b p)) 1) (fun v hv => by rw [(n2.2.2.2 9 (by decide) (by decide)).2]; exact m3 v hv) n3, Option.bind_some]
  rfl
def dc (c : Nat → Int32) (p a b : Nat) : Nat := bt c p a b + bt c p b a
theorem m_decides (h : Rel σC σM) (g : FMS (mS σM) τ) {a b : Nat} (ha : a < nat (gI σM 12 0 5 6)) (hb : b < nat (gI σM 12 0 5 6)) (hp : p < nat (gI σM 12 0 5 5)) :
    ∃ τ', F12_decides τ (nI a) (nI b) (nI p) = some (lN (dc (gI σM 12 0 5) p a b), τ') ∧ FMS (mS σM) τ' := by
  obtain ⟨τ1, k1, k2⟩ := m_beats h g ha hb hp
  obtain ⟨τ2, k3, k4⟩ := m_beats h k2 hb ha hp
  refine ⟨τ2, ?_, k4⟩
  unfold F12_decides
  rw [k1, bd_some, k3, bd_some, lN_add]; rfl
/-- the rivals i are the shooters s i, on the class's side l i times counted -/
def Rivs (σ : Mem) (c : Nat → Int32) (p : Nat) (s l : Nat → Nat) : Prop := ∀ i, i < 4 → Riv σ i (zR c (s i) p) 1 (l i)
theorem c_beats {c : Nat → Int32} {s l : Nat → Nat} (r : Rivs σ c p s l) {i j : Nat} (hi : i < 4) (hj : j < 4) : F11_beats σ (nI i) (nI j) = some (lN (l i * l j * bt c p (s i) (s j))) := by
  unfold F11_beats
  rw [ald_nI (by omega) (by omega), Option.bind_some, ald_nI (by omega) (by omega), Option.bind_some]
  simp only [id]
  rw [c_above (r i hi).2.2 (r j hj).2.2, Option.bind_some, abv_mul, Nat.pow_one, Nat.pow_one]
  rfl
theorem c_decided {c : Nat → Int32} {s l : Nat → Nat} (r : Rivs σ c p s l) {i j : Nat} (hi : i < 4) (hj : j < 4) : F11_decided σ (nI i) (nI j) = some (lN (l i * l j * dc c p (s i) (s j))) := by
  unfold F11_decided
  rw [c_beats r hi hj, Option.bind_some, c_beats r hj hi, Option.bind_some, lN_add, Nat.mul_comm (l j), ← Nat.mul_add]
  rfl
theorem kn_top (ak am al ar Y0 X1 X2 X3 Y1 Y2 Y3 : Nat) : ak * am * Y0 * (al * ar * X1 * (ak * al * X2) * (ak * ar * X3) + ar * al * Y1 * (ak * ar * Y2) * (ak * al * Y3)) = ak * am * (al * ar) * (ak * al) * (ak * ar) * (Y0 * (X1 * X2 * X3 + Y1 * Y2 * Y3)) := by
  have e1 : al * ar * X1 * (ak * al * X2) * (ak * ar * X3) = al * ar * (ak * al) * (ak * ar) * (X1 * X2 * X3) := by ac_rfl
  have e2 : ar * al * Y1 * (ak * ar * Y2) * (ak * al * Y3) = al * ar * (ak * al) * (ak * ar) * (Y1 * Y2 * Y3) := by ac_rfl
  rw [e1, e2, ← Nat.mul_add]
  ac_rfl
theorem kn_bot (ak am al ar D1 D2 D3 D4 : Nat) : ak * am * D1 * (al * ar * D2) * (ak * al * D3) * (ak * ar * D4) = ak * am * (al * ar) * (ak * al) * (ak * ar) * (D1 * D2 * D3 * D4) := by ac_rfl
theorem dc_le {c : Nat → Int32} (o : TentOk c) {a b l m : Nat} (ha : a < nat (c 6)) (hb : b < nat (c 6)) (hp : p < nat (c 5)) (h1 : l * oAll (zR c a p) = zA (zR c a p)) (h2 : m * oAll (zR c b p) = zA (zR c b p)) (hl : 1 ≤ l) (hm : 1 ≤ m) : l * m * dc c p a b ≤ 324 := by
  have z1 := zA_18 (zR_ok o ha hp) rfl h1 hl
  have z2 := zA_18 (zR_ok o hb hp) rfl h2 hm
  have t1 := oCnt_tot (zR_ok o ha hp)
  have t2 := oCnt_tot (zR_ok o hb hp)
  have hA := abv_le (wy (oCnt (zR c a p)) 1) (wy (oCnt (zR c b p)) 1)
  rw [wy_tot 1 101 (by omega), wy_tot 1 101 (by omega), t1, t2, Nat.pow_one, Nat.pow_one] at hA
  have h3 : l * m * dc c p a b ≤ l * m * (oAll (zR c a p) * oAll (zR c b p)) := Nat.mul_le_mul_left _ hA
  rw [Nat.mul_mul_mul_comm] at h3
  have h4 := Nat.mul_le_mul z1.2.2 z2.2.2
  omega
theorem lN0 {n : Nat} (h : n < 2147483648) : lN n = 0 ↔ n = 0 := by
  have := lN_eq (a := n) (b := 0) h (by omega)
  exact this
/-- the numbers of the knock on both sides: k, his mate m, the couple x, y -/
theorem knock_end (h : Rel σC σM) (f : FC [2, 6] σC σ) (g : FMS (mS σM) τ) {s l : Nat → Nat} (r : Rivs σ (gI σM 12 0 5) p s l) (hs : ∀ i, i < 4 → s i < nat (gI σM 12 0 5 6)) (hp : p < nat (gI σM 12 0 5 5)) {k m x : Nat} (hk : k < 4) (hm : m < 4) (hx : x + 1 < 4)
    (t : Int32) (b : Int32) (hn : F12_numberOf τ t b = some (lN (s (x + 1)))) : Stq (F11_knock_p84 σ (nI k) (nI m) (nI x)) (F12_knock_p182 τ (nI p) (nI (s k)) (nI (s m)) (nI (s x)) t b) := by
  have o := h.ok5
  have hy : x < 4 := by omega
  have lk := (r k hk).2.1
  have lm := (r m hm).2.1
  have lx := (r x hy).2.1
  have ly := (r (x + 1) hx).2.1
  have B := fun (i j : Nat) (hi : i < 4) (hj : j < 4) => dc_le o (hs i hi) (hs j hj) hp (r i hi).1 (r j hj).1 (r i hi).2.1 (r j hj).2.1
  have b1 := B k m hk hm
  have b2 := B x (x + 1) hy hx
  have b3 := B k x hk hy
  have b4 := B k (x + 1) hk hx
  obtain ⟨τ1, e1, g1⟩ := m_decides h g (hs k hk) (hs m hm) hp
  obtain ⟨τ2, e2, g2⟩ := m_decides h g1 (hs x hy) (hs (x + 1) hx) hp
  obtain ⟨τ3, e3, g3⟩ := m_decides h g2 (hs k hk) (hs x hy) hp
  obtain ⟨τ4, e4, g4⟩ := m_decides h g3 (hs k hk) (hs (x + 1) hx) hp
  obtain ⟨τ5, e5, g5⟩ := m_beats h g4 (hs k hk) (hs m hm) hp
  obtain ⟨τ6, e6, g6⟩ := m_beats h g5 (hs x hy) (hs (x + 1) hx) hp
  obtain ⟨τ7, e7, g7⟩ := m_beats h g6 (hs k hk) (hs x hy) hp
  obtain ⟨τ8, e8, g8⟩ := m_beats h g7 (hs (x + 1) hx) (hs x hy) hp
  obtain ⟨τ9, e9, g9⟩ := m_beats h g8 (hs k hk) (hs (x + 1) hx) hp
  unfold F11_knock_p84 F12_knock_p182
  simp only [nI_1, bnd_eq, hn, Option.bind_some, lN_i]
  rw [c_decided r hk hm, Option.bind_some, c_decided r hy hx, Option.bind_some, c_decided r hk hy, Option.bind_some, c_decided r hk hx, Option.bind_some, e1, bd_some, e2, bd_some, e3, bd_some, e4, bd_some]
  rw [c_beats r hy hx, c_beats r hk hy, c_beats r hx hy, c_beats r hk hx, c_beats r hk hm, e5, bd_some, e6, bd_some, e7, bd_some, e8, bd_some, e9, bd_some]
  simp only [Option.bind_some, lN_mul, lN_add]
  rw [kn_top, kn_bot]
  have P := f.w26.pcs
  have Z : ∀ {a b D : Nat}, 1 ≤ a → 1 ≤ b → a * b * D ≤ 324 → (lN (a * b * D) = 0 ↔ D = 0) ∧ (lN D = 0 ↔ D = 0) ∧ 1 ≤ a * b ∧ D ≤ a * b * D := by
    intro a b D ha hb hD
    have h1 : 1 * 1 ≤ a * b := Nat.mul_le_mul ha hb
    have h2 : D ≤ a * b * D := Nat.le_mul_of_pos_left D (by omega)
    refine ⟨?_, lN0 (by omega), by omega, h2⟩
    rw [lN0 (by omega)]
    constructor
    · intro e; omega
    · intro e; rw [e, Nat.mul_zero]
  obtain ⟨i1, j1, u1, v1⟩ := Z lk lm b1
  obtain ⟨i2, j2, u2, v2⟩ := Z lx ly b2
  obtain ⟨i3, j3, u3, v3⟩ := Z lk lx b3
  obtain ⟨i4, j4, u4, v4⟩ := Z lk ly b4
  have a1 : bt (gI σM 12 0 5) p (s k) (s m) ≤ dc (gI σM 12 0 5) p (s k) (s m) := Nat.le_add_right _ _
  have a2 : bt (gI σM 12 0 5) p (s x) (s (x + 1)) ≤ dc (gI σM 12 0 5) p (s x) (s (x + 1)) := Nat.le_add_right _ _
  have a2' : bt (gI σM 12 0 5) p (s (x + 1)) (s x) ≤ dc (gI σM 12 0 5) p (s x) (s (x + 1)) := Nat.le_add_left _ _
  have a3 : bt (gI σM 12 0 5) p (s k) (s x) ≤ dc (gI σM 12 0 5) p (s k) (s x) := Nat.le_add_right _ _
  have a4 : bt (gI σM 12 0 5) p (s k) (s (x + 1)) ≤ dc (gI σM 12 0 5) p (s k) (s (x + 1)) := Nat.le_add_right _ _
  generalize dc (gI σM 12 0 5) p (s k) (s m) = D1 at *
  generalize dc (gI σM 12 0 5) p (s x) (s (x + 1)) = D2 at *
  generalize dc (gI σM 12 0 5) p (s k) (s x) = D3 at *
  generalize dc (gI σM 12 0 5) p (s k) (s (x + 1)) = D4 at *
  generalize bt (gI σM 12 0 5) p (s k) (s m) = Y0 at *
  generalize bt (gI σM 12 0 5) p (s x) (s (x + 1)) = X1 at *
  generalize bt (gI σM 12 0 5) p (s (x + 1)) (s x) = Y1 at *
  generalize bt (gI σM 12 0 5) p (s k) (s x) = X2 at *
  generalize bt (gI σM 12 0 5) p (s k) (s (x + 1)) = Y2 at *
  by_cases c1 : D1 = 0
  · rw [if_pos (i1.mpr c1), if_pos (j1.mpr c1), den_eq, mno_eq, bd_some, bd_some]
    exact ⟨_, _, _, rfl, rfl, h.ref P g4 9⟩
  rw [if_neg (fun e => c1 (i1.mp e)), if_neg (fun e => c1 (j1.mp e))]
  by_cases c2 : D2 = 0
  · rw [if_pos (i2.mpr c2), if_pos (j2.mpr c2), den_eq, mno_eq, bd_some, bd_some]
    exact ⟨_, _, _, rfl, rfl, h.ref P g4 9⟩
  rw [if_neg (fun e => c2 (i2.mp e)), if_neg (fun e => c2 (j2.mp e))]
  by_cases c3 : D3 = 0
  · rw [if_pos (i3.mpr c3), if_pos (j3.mpr c3), den_eq, mno_eq, bd_some, bd_some]
    exact ⟨_, _, _, rfl, rfl, h.ref P g4 9⟩
  rw [if_neg (fun e => c3 (i3.mp e)), if_neg (fun e => c3 (j3.mp e))]
  by_cases c4 : D4 = 0
  · rw [if_pos (i4.mpr c4), if_pos (j4.mpr c4), den_eq, mno_eq, bd_some, bd_some]
    exact ⟨_, _, _, rfl, rfl, h.ref P g4 9⟩
  rw [if_neg (fun e => c4 (i4.mp e)), if_neg (fun e => c4 (j4.mp e))]
  have s1 : l k * l m * (l x * l (x + 1)) * (l k * l x) * (l k * l (x + 1)) * (D1 * D2 * D3 * D4) ≤ 324 * 324 * 324 * 324 := by
    rw [← kn_bot]
    exact Nat.mul_le_mul (Nat.mul_le_mul (Nat.mul_le_mul b1 b2) b3) b4
  have w0 : l k * l m * Y0 ≤ 324 := Nat.le_trans (Nat.mul_le_mul_left _ a1) b1
  have w1 : l x * l (x + 1) * X1 ≤ 324 := Nat.le_trans (Nat.mul_le_mul_left _ a2) b2
  have w2 : l (x + 1) * l x * Y1 ≤ 324 := by rw [Nat.mul_comm (l (x + 1))]; exact Nat.le_trans (Nat.mul_le_mul_left _ a2') b2
  have w3 : l k * l x * X2 ≤ 324 := Nat.le_trans (Nat.mul_le_mul_left _ a3) b3
  have w4 : l k * l (x + 1) * Y2 ≤ 324 := Nat.le_trans (Nat.mul_le_mul_left _ a4) b4
  have s2 : l k * l m * (l x * l (x + 1)) * (l k * l x) * (l k * l (x + 1)) * (Y0 * (X1 * X2 * D4 + Y1 * Y2 * D3)) ≤ 324 * (324 * 324 * 324 + 324 * 324 * 324) := by
    rw [← kn_top]
    exact Nat.mul_le_mul w0 (Nat.add_le_add (Nat.mul_le_mul (Nat.mul_le_mul w1 w3) b4) (Nat.mul_le_mul (Nat.mul_le_mul w2 w4) b3))
  have s3 : 1 * 1 * 1 * 1 ≤ l k * l m * (l x * l (x + 1)) * (l k * l x) * (l k * l (x + 1)) := Nat.mul_le_mul (Nat.mul_le_mul (Nat.mul_le_mul u1 u2) u3) u4
  have s4 : 1 * 1 * 1 * 1 ≤ D1 * D2 * D3 * D4 := Nat.mul_le_mul (Nat.mul_le_mul (Nat.mul_le_mul (by omega) (by omega)) (by omega)) (by omega)
  generalize l k * l m * (l x * l (x + 1)) * (l k * l x) * (l k * l (x + 1)) = L at *
  generalize D1 * D2 * D3 * D4 = Bo at *
  generalize Y0 * (X1 * X2 * D4 + Y1 * Y2 * D3) = To at *
  have t1 : To ≤ L * To := Nat.le_mul_of_pos_left To (by omega)
  have t2 : Bo ≤ L * Bo := Nat.le_mul_of_pos_left Bo (by omega)
  rw [tell_63 (by omega) (by omega) (by omega) (by omega), bd_some, agr_eq, bd_some, frac_63 (by omega) (by omega) (by omega), bd_some]
  exact ⟨_, _, _, rfl, rfl, h.tel P g9 _ _⟩
end KNO
