/-! PURE. All that a hand and a turn may do. -/
def su (n : Nat) (f : Nat → Nat) : Nat := match n with
  | 0 => 0
  | n + 1 => su n f + f n
theorem su_0 (f : Nat → Nat) : su 0 f = 0 := rfl
theorem su_s (n : Nat) (f : Nat → Nat) : su (n + 1) f = su n f + f n := rfl
theorem su_congr {f g : Nat → Nat} : ∀ n, (∀ k, k < n → f k = g k) → su n f = su n g := by
  intro n
  induction n with
  | zero => intro _; rfl
  | succ n ih => intro h; rw [su_s, su_s, ih (fun k hk => h k (by omega)), h n (by omega)]
theorem su_add {f g : Nat → Nat} : ∀ n, su n (fun k => f k + g k) = su n f + su n g := by
  intro n
  induction n with
  | zero => rfl
  | succ n ih => simp only [su_s, ih]; omega
theorem su_mul {l : Nat} {f : Nat → Nat} : ∀ n, su n (fun k => l * f k) = l * su n f := by
  intro n
  induction n with
  | zero => rfl
  | succ n ih => simp only [su_s, ih, Nat.mul_add]
theorem su_le {f : Nat → Nat} {M : Nat} : ∀ n, (∀ k, k < n → f k ≤ M) → su n f ≤ n * M := by
  intro n
  induction n with
  | zero => intro _; simp [su_0]
  | succ n ih =>
    intro h
    have h1 := ih (fun k hk => h k (by omega))
    have h2 := h n (by omega)
    rw [su_s, Nat.succ_mul]; omega
theorem su_const {l : Nat} : ∀ n, su n (fun _ => l) = n * l := by
  intro n
  induction n with
  | zero => simp [su_0]
  | succ n ih => rw [su_s, ih, Nat.succ_mul]
theorem su_swap {f : Nat → Nat → Nat} (m : Nat) : ∀ n, su n (fun a => su m (fun b => f a b)) = su m (fun b => su n (fun a => f a b)) := by
  intro n
  induction n with
  | zero => simp only [su_0]; rw [su_const]; omega
  | succ n ih => simp only [su_s, ih]; rw [su_add]
def s3 (n m : Nat) (f : Nat → Nat → Nat → Nat) : Nat := su n (fun a => su n (fun b => su m (fun t => f a b t)))
theorem s3_le {f : Nat → Nat → Nat → Nat} {M : Nat} (n m : Nat) (h : ∀ a b t, f a b t ≤ M) : s3 n m f ≤ n * (n * (m * M)) :=
  su_le _ (fun _ _ => su_le _ (fun _ _ => su_le _ (fun _ _ => h _ _ _)))
theorem s3_congr {f g : Nat → Nat → Nat → Nat} (n m : Nat) (h : ∀ a b t, f a b t = g a b t) : s3 n m f = s3 n m g :=
  su_congr _ (fun _ _ => su_congr _ (fun _ _ => su_congr _ (fun _ _ => h _ _ _)))
theorem s3_mul {f : Nat → Nat → Nat → Nat} {l : Nat} (n m : Nat) : s3 n m (fun a b t => l * f a b t) = l * s3 n m f := by
  simp only [s3, su_mul]
theorem s3_su {f : Nat → Nat → Nat → Nat → Nat} (n m k : Nat) : su k (fun v => s3 n m (f v)) = s3 n m (fun a b t => su k (fun v => f v a b t)) := by
  simp only [s3]
  rw [su_swap]
  refine su_congr _ (fun a _ => ?_)
  rw [su_swap]
  refine su_congr _ (fun b _ => ?_)
  rw [su_swap]
/-- 1 at the place q -/
def one (q v : Nat) : Nat := if q = v then 1 else 0
theorem one_s (q : Nat) : one q q = 1 := by simp [one]
theorem one_n {q v : Nat} (h : ¬ v = q) : one q v = 0 := by unfold one; exact if_neg (fun e => h e.symm)
theorem su_one (q : Nat) : ∀ n, su n (fun v => v * one q v) = if q < n then q else 0 := by
  intro n
  induction n with
  | zero => rfl
  | succ n ih =>
    rw [su_s, ih]
    unfold one
    by_cases h : q = n
    · subst h; simp
    · by_cases h2 : q < n
      · simp [h, h2, show q < n + 1 by omega]
      · simp [h, h2, show ¬ q < n + 1 by omega]
def trn (t : Nat) : Int32 := if t = 0 then 1 else -1
/-- the points of the hand a, b and the turn t: X, y where it strikes with the hand still, drop aside -/
def pt (c : Nat → Int32) (X y d off : Int32) (n a b t : Nat) : Nat := nat (sPts c (X + (nI a - nI n) + trn t * off) (y + (nI b - nI n) - d))
theorem pt_le {c : Nat → Int32} (o : TentOk c) (X y d off : Int32) (n a b t : Nat) : pt c X y d off n a b t ≤ 20 := by
  have h := sPts_int o (X + (nI a - nI n) + trn t * off) (y + (nI b - nI n) - d)
  unfold pt
  have := nat_i (sPts c (X + (nI a - nI n) + trn t * off) (y + (nI b - nI n) - d))
  omega
theorem pt_nI {c : Nat → Int32} (o : TentOk c) (X y d off : Int32) (n a b t : Nat) : sPts c (X + (nI a - nI n) + trn t * off) (y + (nI b - nI n) - d) = nI (pt c X y d off n a b t) :=
  nI_of32 (i32_le.mpr (sPts_int o _ _).1)
/-- the numbers of a shot by hand: cells, shooter, pea, puff, beat, aim, spit -/
abbrev ShN : Type := (Nat → Int32) × Nat × Nat × Int32 × Int32 × Int32 × Int32 × Int32
def zFate (z : ShN) : Int32 := sFate z.1 z.2.2.1 z.2.2.2.1 z.2.2.2.2.2.2.2
def zTime (z : ShN) : Int32 := sTime z.1 (sPace z.1 z.2.2.1 z.2.2.2.1 z.2.2.2.2.2.2.2)
def zOff (z : ShN) : Int32 := sOff z.1 z.2.2.1 (zTime z)
def zN (z : ShN) : Nat := nat (sHand z.1 z.2.1 z.2.2.2.2.1)
def zTurns (z : ShN) : Nat := if zOff z ≤ 0 then 1 else 2
def zX (z : ShN) : Int32 := z.2.2.2.2.2.1 + z.1 (65 + z.2.1) + sAside z.1 (zTime z)
def zY (z : ShN) : Int32 := z.2.2.2.2.2.2.1 + z.1 (71 + z.2.1)
def zP (z : ShN) : Nat → Nat → Nat → Nat := pt z.1 (zX z) (zY z) (sDrop (zTime z)) (zOff z) (zN z)
def oAll (z : ShN) : Nat := if zFate z = 0 then (2 * zN z + 1) * (2 * zN z + 1) * zTurns z else 1
def oCnt (z : ShN) (v : Nat) : Nat := if zFate z = 0 then s3 (2 * zN z + 1) (zTurns z) (fun a b t => one (zP z a b t) v) else one 0 v
def oSum (z : ShN) : Nat := if zFate z = 0 then s3 (2 * zN z + 1) (zTurns z) (zP z) else 0
/-- what may be reckoned -/
def ShOk (z : ShN) : Prop := TentOk z.1 ∧ z.2.1 < nat (z.1 6) ∧ z.2.2.1 < nat (z.1 5) ∧ (0 ≤ z.2.2.2.2.2.2.2.toInt ∧ z.2.2.2.2.2.2.2.toInt ≤ 20) ∧ (1 ≤ z.2.2.2.1.toInt ∧ z.2.2.2.1.toInt ≤ 40)
section OC
variable {z : ShN}
theorem zN_le (h : ShOk z) : zN z ≤ 6 ∧ sHand z.1 z.2.1 z.2.2.2.2.1 = nI (zN z) := by
  have h1 := sHand_int h.1 h.2.1 z.2.2.2.2.1
  have h2 := nat_i (sHand z.1 z.2.1 z.2.2.2.2.1)
  exact ⟨by unfold zN; omega, nI_of32 (i32_le.mpr h1.1)⟩
theorem zTurns_le : 1 ≤ zTurns z ∧ zTurns z ≤ 2 := by unfold zTurns; split <;> omega
theorem sq_le {n : Nat} (h : n ≤ 6) : (2 * n + 1) * (2 * n + 1) ≤ 169 := by
  have : (2 * n + 1) * (2 * n + 1) ≤ 13 * 13 := Nat.mul_le_mul (by omega) (by omega)
  omega
theorem oAll_le (h : ShOk z) : 1 ≤ oAll z ∧ oAll z ≤ 338 := by
  unfold oAll
  split
  · have h1 := sq_le (zN_le h).1
    have h2 := zTurns_le (z := z)
    have h3 : (2 * zN z + 1) * (2 * zN z + 1) * zTurns z ≤ 169 * 2 := Nat.mul_le_mul h1 h2.2
    have h4 : 1 * 1 * 1 ≤ (2 * zN z + 1) * (2 * zN z + 1) * zTurns z := Nat.mul_le_mul (Nat.mul_le_mul (by omega) (by omega)) h2.1
    omega
  · omega
theorem one_le {q v : Nat} : one q v ≤ 1 := by unfold one; split <;> omega
theorem oCnt_le (h : ShOk z) (v : Nat) : oCnt z v ≤ oAll z := by
  unfold oCnt oAll
  split
  · have := s3_le (f := fun a b t => one (zP z a b t) v) (M := 1) (2 * zN z + 1) (zTurns z) (fun a b t => one_le)
    rw [Nat.mul_assoc]
    simpa using this
  · exact one_le
theorem oSum_le (h : ShOk z) : oSum z ≤ 20 * oAll z := by
  unfold oSum oAll
  split
  · have := s3_le (f := zP z) (M := 20) (2 * zN z + 1) (zTurns z) (fun a b t => pt_le h.1 ..)
    have e : 20 * ((2 * zN z + 1) * (2 * zN z + 1) * zTurns z) = (2 * zN z + 1) * ((2 * zN z + 1) * (zTurns z * 20)) := by
      rw [Nat.mul_comm 20, Nat.mul_assoc, Nat.mul_assoc]
    omega
  · omega
/-- the sum is that of the counted points -/
theorem oSum_eq (h : ShOk z) : su 21 (fun v => v * oCnt z v) = oSum z := by
  unfold oSum oCnt
  by_cases hf : zFate z = 0
  · simp only [hf, if_true]
    have e : ∀ v, v * s3 (2 * zN z + 1) (zTurns z) (fun a b t => one (zP z a b t) v) = s3 (2 * zN z + 1) (zTurns z) (fun a b t => v * one (zP z a b t) v) := fun v => (s3_mul ..).symm
    simp only [e]
    rw [s3_su]
    refine s3_congr _ _ (fun a b t => ?_)
    rw [su_one, if_pos (by have := pt_le h.1 (zX z) (zY z) (sDrop (zTime z)) (zOff z) (zN z) a b t; unfold zP; omega)]
  · simp only [hf, if_false]
    rw [su_one]; rfl
theorem zFly_int (h : ShOk z) (hf : zFate z = 0) : (0 ≤ (zTime z).toInt ∧ (zTime z).toInt ≤ 280) ∧ (0 ≤ (zOff z).toInt ∧ (zOff z).toInt ≤ 140) := by
  obtain ⟨g1, g2, -⟩ := sFate_0 (c := z.1) hf
  have h1 := sPace_int h.1 h.2.2.1 (i32_le.mp g1) h.2.2.2.1 h.2.2.2.2
  have h2 := i32_le.mp g2
  have e24 : (24 : Int32).toInt = 24 := rfl
  have h3 := sTime_int h.1 (pc := sPace z.1 z.2.2.1 z.2.2.2.1 z.2.2.2.2.2.2.2) (by omega)
  exact ⟨h3, sOff_int h.1 h.2.2.1 h3⟩
end OC
/-! the model counts -/
/-- so far: of the points v O v, S together -/
def Acc (σ0 σ : Mem) (O : Nat → Nat) (S : Nat) : Prop := FM [34] [] [8] σ0 σ ∧ (∀ v, v < 21 → gI σ 12 0 8 v = nI (O v)) ∧ gI σ 12 0 0 34 = nI S
theorem Acc.cg {σ0 σ : Mem} {O O' : Nat → Nat} {S S' : Nat} (h : Acc σ0 σ O S) (h1 : ∀ v, O v = O' v) (h2 : S = S') : Acc σ0 σ O' S' := by
  have : O = O' := funext h1
  subst this; subst h2; exact h
section MC
variable {σ0 σ : Mem} {s n : Nat} {O : Nat → Nat} {S : Nat} {x y : Int32}
theorem m_point {rc : Mem → Int32 → Option (Unit × Mem)} (o : TentOk (gI σ0 12 0 5)) (hs : s < nat (gI σ0 12 0 5 6)) (h : Acc σ0 σ O S) (a b t : Nat) (x8 x9 x12 : Int32) :
    ∃ σ', F12_counts_p145 rc σ (nI s) x y x8 x9 (nI a - nI n) (nI b - nI n) x12 (nI s) x (trn t) = rc σ' (x12 + 1) ∧
      Acc σ0 σ' (fun v => O v + one (pt (gI σ0 12 0 5) (x + gI σ0 12 0 5 (65 + s) + gI σ0 12 0 0 30) (y + gI σ0 12 0 5 (71 + s)) (gI σ0 12 0 0 29) (gI σ0 12 0 0 31) n a b t) v) (S + pt (gI σ0 12 0 5) (x + gI σ0 12 0 5 (65 + s) + gI σ0 12 0 0 30) (y + gI σ0 12 0 5 (71 + s)) (gI σ0 12 0 0 29) (gI σ0 12 0 0 31) n a b t) := by
  obtain ⟨h1, h2, h3⟩ := h
  have h6 := ok_n6 o
  have hc : gI σ 12 0 5 = gI σ0 12 0 5 := h1.c (by decide)
  have q30 : gI σ 12 0 0 30 = gI σ0 12 0 0 30 := h1.1 30 (by decide)
  have q31 : gI σ 12 0 0 31 = gI σ0 12 0 0 31 := h1.1 31 (by decide)
  have q29 : gI σ 12 0 0 29 = gI σ0 12 0 0 29 := h1.1 29 (by decide)
  unfold F12_counts_p145
  rw [F12_strikeX, F12_strikeY]
  simp (disch := omega) only [hc, q30, q31, q29, ix_9, ix_15, ix_21, ix_29, ix_37, ix_45, ix_53, ix_59, ix_65, ix_71, ix_77, ix_83, ix_325, al_0, al_1, al_2, al_3, al_4, al_5, al_6, al_7, al_8, ald_nI, Option.bind_some, bnd_eq, bd_some]
  rw [m_pts (by rw [hc]; exact o), hc, Option.bind_some, pt_nI o]
  have hp := pt_le o (x + gI σ0 12 0 5 (65 + s) + gI σ0 12 0 0 30) (y + gI σ0 12 0 5 (71 + s)) (gI σ0 12 0 0 29) (gI σ0 12 0 0 31) n a b t
  generalize pt (gI σ0 12 0 5) (x + gI σ0 12 0 5 (65 + s) + gI σ0 12 0 0 30) (y + gI σ0 12 0 5 (71 + s)) (gI σ0 12 0 0 29) (gI σ0 12 0 0 31) n a b t = P at *
  rw [ald_nI (by omega) (by omega), Option.bind_some, chk_nI (by omega) (by omega), cl_nI (by omega)]
  refine ⟨_, rfl, ?_, fun v hv => ?_, ?_⟩
  · exact FM.sI (FM.sP h1 (by decide) (by decide)) (by decide)
  · rw [rI_c (by decide), rI_f, upd_eq, h2 P (by omega), h2 v hv]
    by_cases e : v = P
    · subst e; simp only [if_true, nI_1, one_s]
    · rw [if_neg e]; simp only [one_n e]; rfl
  · rw [rI_s, rI_c (by decide), h3, nI_add]
theorem trn_0 : trn 0 = 1 := rfl
theorem trn_1 : trn 1 = -1 := rfl
theorem m_tL {T : Nat} (hT : T ≤ 2) (o : TentOk (gI σ0 12 0 5)) (hs : s < nat (gI σ0 12 0 5 6)) (h : Acc σ0 σ O S) (a b : Nat) (x8 : Int32) :
    ∃ r, F12_counts_L123 (nI s) x y x8 (nI T) (nI a - nI n) (nI b - nI n) fuelK σ 0 = some r ∧
      Acc σ0 r.2 (fun v => O v + su T (fun t => one (pt (gI σ0 12 0 5) (x + gI σ0 12 0 5 (65 + s) + gI σ0 12 0 0 30) (y + gI σ0 12 0 5 (71 + s)) (gI σ0 12 0 0 29) (gI σ0 12 0 0 31) n a b t) v)) (S + su T (fun t => pt (gI σ0 12 0 5) (x + gI σ0 12 0 5 (65 + s) + gI σ0 12 0 0 30) (y + gI σ0 12 0 5 (71 + s)) (gI σ0 12 0 0 29) (gI σ0 12 0 0 31) n a b t)) := by
  refine loopG (L := fun m (w : Mem × Int32) => F12_counts_L123 (nI s) x y x8 (nI T) (nI a - nI n) (nI b - nI n) m w.1 w.2) (N := T)
    (Inv := fun i w => w.2 = nI i ∧ Acc σ0 w.1 (fun v => O v + su i (fun t => one (pt (gI σ0 12 0 5) (x + gI σ0 12 0 5 (65 + s) + gI σ0 12 0 0 30) (y + gI σ0 12 0 5 (71 + s)) (gI σ0 12 0 0 29) (gI σ0 12 0 0 31) n a b t) v)) (S + su i (fun t => pt (gI σ0 12 0 5) (x + gI σ0 12 0 5 (65 + s) + gI σ0 12 0 0 30) (y + gI σ0 12 0 5 (71 + s)) (gI σ0 12 0 0 29) (gI σ0 12 0 0 31) n a b t)))
    ?_ T fuelK 0 (σ, 0) (by omega) (fuelK_lt (by omega)) ⟨rfl, h⟩
  rintro m i ⟨σ1, w⟩ hi ⟨e1, e2⟩
  simp only at e1 e2
  subst e1
  simp only [F12_counts_L123.eq_2]
  by_cases e : i = T
  · subst e
    exact .inl ⟨_, by rw [if_pos (Int32.le_refl _)], e2⟩
  · refine .inr ⟨by omega, ?_⟩
    rw [if_neg (nI_ge (by omega) (by omega))]
    obtain ⟨σ', k1, k2⟩ := m_point (rc := F12_counts_L123 (nI s) x y x8 (nI T) (nI a - nI n) (nI b - nI n) m) (n := n) (x := x) (y := y) o hs e2 a b i x8 (nI T) (nI i)
    rw [nI_1] at k1
    refine ⟨(σ', nI (i + 1)), ?_, rfl, k2.cg (fun v => by simp only [su_s]; omega) (by simp only [su_s]; omega)⟩
    by_cases e0 : i = 0
    · subst e0
      rw [if_pos nI_z]; exact k1
    · have : i = 1 := by omega
      subst this
      rw [if_neg (by decide)]; exact k1
theorem sub_int {a n : Nat} (ha : a < 1000) (hn : n < 1000) : (nI a - nI n).toInt = (a : Int) - n := pk_sub_toInt (by omega) (by omega)
theorem sub_gt {a n : Nat} (hn : n ≤ 6) (ha : a ≤ 2 * n + 1) : nI n < nI a - nI n ↔ a = 2 * n + 1 := by
  rw [i32_lt, sub_int (by omega) (by omega), nI_int (by omega)]; omega
theorem sub_next (a n : Nat) : nI a - nI n + 1 = nI (a + 1) - nI n := by rw [← nI_1]; grind
theorem neg_0 (n : Nat) : -nI n = nI 0 - nI n := by rw [nI_z]; grind
theorem m_bL {T : Nat} (hT : T ≤ 2) (hn : n ≤ 6) (o : TentOk (gI σ0 12 0 5)) (hs : s < nat (gI σ0 12 0 5 6)) (h : Acc σ0 σ O S) (a : Nat) :
    ∃ r, F12_counts_L113 (nI s) x y (nI n) (nI T) (nI a - nI n) fuelK σ (-nI n) = some r ∧
      Acc σ0 r.2 (fun v => O v + su (2 * n + 1) (fun b => su T (fun t => one (pt (gI σ0 12 0 5) (x + gI σ0 12 0 5 (65 + s) + gI σ0 12 0 0 30) (y + gI σ0 12 0 5 (71 + s)) (gI σ0 12 0 0 29) (gI σ0 12 0 0 31) n a b t) v))) (S + su (2 * n + 1) (fun b => su T (fun t => pt (gI σ0 12 0 5) (x + gI σ0 12 0 5 (65 + s) + gI σ0 12 0 0 30) (y + gI σ0 12 0 5 (71 + s)) (gI σ0 12 0 0 29) (gI σ0 12 0 0 31) n a b t))) := by
  refine loopG (L := fun m (w : Mem × Int32) => F12_counts_L113 (nI s) x y (nI n) (nI T) (nI a - nI n) m w.1 w.2) (N := 2 * n + 1)
    (Inv := fun i w => w.2 = nI i - nI n ∧ Acc σ0 w.1 (fun v => O v + su i (fun b => su T (fun t => one (pt (gI σ0 12 0 5) (x + gI σ0 12 0 5 (65 + s) + gI σ0 12 0 0 30) (y + gI σ0 12 0 5 (71 + s)) (gI σ0 12 0 0 29) (gI σ0 12 0 0 31) n a b t) v))) (S + su i (fun b => su T (fun t => pt (gI σ0 12 0 5) (x + gI σ0 12 0 5 (65 + s) + gI σ0 12 0 0 30) (y + gI σ0 12 0 5 (71 + s)) (gI σ0 12 0 0 29) (gI σ0 12 0 0 31) n a b t))))
    ?_ (2 * n + 1) fuelK 0 (σ, -nI n) (by omega) (fuelK_lt (by omega)) ⟨neg_0 n, h⟩
  rintro m i ⟨σ1, w⟩ hi ⟨e1, e2⟩
  simp only at e1 e2
  subst e1
  simp only [F12_counts_L113.eq_2]
  by_cases e : i = 2 * n + 1
  · subst e
    exact .inl ⟨_, by rw [if_pos ((sub_gt hn (by omega)).mpr rfl)], e2⟩
  · refine .inr ⟨by omega, ?_⟩
    rw [if_neg (fun e3 => e ((sub_gt hn (by omega)).mp e3))]
    obtain ⟨r, k1, k2⟩ := m_tL (n := n) (x := x) (y := y) hT o hs e2 a i (nI n)
    rw [k1]
    exact ⟨(r.2, nI (i + 1) - nI n), by rw [← sub_next]; rfl, rfl, k2.cg (fun v => by simp only [su_s]; omega) (by simp only [su_s]; omega)⟩
theorem m_aL {T : Nat} (hT : T ≤ 2) (hn : n ≤ 6) (o : TentOk (gI σ0 12 0 5)) (hs : s < nat (gI σ0 12 0 5 6)) (h : Acc σ0 σ O S) :
    ∃ r, F12_counts_L101 (nI s) x y (nI n) (nI T) fuelK σ (-nI n) = some r ∧
      Acc σ0 r.2 (fun v => O v + s3 (2 * n + 1) T (fun a b t => one (pt (gI σ0 12 0 5) (x + gI σ0 12 0 5 (65 + s) + gI σ0 12 0 0 30) (y + gI σ0 12 0 5 (71 + s)) (gI σ0 12 0 0 29) (gI σ0 12 0 0 31) n a b t) v)) (S + s3 (2 * n + 1) T (pt (gI σ0 12 0 5) (x + gI σ0 12 0 5 (65 + s) + gI σ0 12 0 0 30) (y + gI σ0 12 0 5 (71 + s)) (gI σ0 12 0 0 29) (gI σ0 12 0 0 31) n)) := by
  refine loopG (L := fun m (w : Mem × Int32) => F12_counts_L101 (nI s) x y (nI n) (nI T) m w.1 w.2) (N := 2 * n + 1)
    (Inv := fun i w => w.2 = nI i - nI n ∧ Acc σ0 w.1 (fun v => O v + su i (fun a => su (2 * n + 1) (fun b => su T (fun t => one (pt (gI σ0 12 0 5) (x + gI σ0 12 0 5 (65 + s) + gI σ0 12 0 0 30) (y + gI σ0 12 0 5 (71 + s)) (gI σ0 12 0 0 29) (gI σ0 12 0 0 31) n a b t) v)))) (S + su i (fun a => su (2 * n + 1) (fun b => su T (fun t => pt (gI σ0 12 0 5) (x + gI σ0 12 0 5 (65 + s) + gI σ0 12 0 0 30) (y + gI σ0 12 0 5 (71 + s)) (gI σ0 12 0 0 29) (gI σ0 12 0 0 31) n a b t)))))
    ?_ (2 * n + 1) fuelK 0 (σ, -nI n) (by omega) (fuelK_lt (by omega)) ⟨neg_0 n, h⟩
  rintro m i ⟨σ1, w⟩ hi ⟨e1, e2⟩
  simp only at e1 e2
  subst e1
  simp only [F12_counts_L101.eq_2]
  by_cases e : i = 2 * n + 1
  · subst e
    exact .inl ⟨_, by rw [if_pos ((sub_gt hn (by omega)).mpr rfl)], e2⟩
  · refine .inr ⟨by omega, ?_⟩
    rw [if_neg (fun e3 => e ((sub_gt hn (by omega)).mp e3)), bnd_eq]
    obtain ⟨r, k1, k2⟩ := m_bL (n := n) (x := x) (y := y) hT hn o hs e2 i
    rw [k1]
    exact ⟨(r.2, nI (i + 1) - nI n), by rw [← sub_next]; rfl, rfl, k2.cg (fun v => by simp only [su_s]; omega) (by simp only [su_s]; omega)⟩
end MC
theorem m_zL {σ : Mem} {x1 x2 x3 x4 x5 x6 x7 : Int32} : ∃ r, F12_counts_L3 x1 x2 x3 x4 x5 x6 x7 fuelK σ 0 = some r ∧ FM [] [] [8] σ r.2 ∧ ∀ v, v < 21 → gI r.2 12 0 8 v = 0 := by
  refine loopG (L := fun m (w : Mem × Int32) => F12_counts_L3 x1 x2 x3 x4 x5 x6 x7 m w.1 w.2) (N := 21)
    (Inv := fun i w => w.2 = nI i ∧ FM [] [] [8] σ w.1 ∧ ∀ v, v < i → gI w.1 12 0 8 v = 0) ?_ 21 fuelK 0 (σ, 0) (by omega) (fuelK_lt (by omega)) ⟨rfl, FM.z, fun v hv => absurd hv (by omega)⟩
  rintro m i ⟨σ1, w⟩ hi ⟨e1, e2, e3⟩
  simp only at e1 e2 e3
  subst e1
  simp only [F12_counts_L3.eq_2]
  by_cases e : i = 21
  · subst e
    exact .inl ⟨_, by rw [if_pos (by decide)], e2, e3⟩
  · refine .inr ⟨by omega, ?_⟩
    rw [if_neg (show ¬ (21 : Int32) ≤ nI i from nI_ge (a := i) (b := 21) (by omega) (by omega)), chk_nI (by omega) (by omega), bnd_eq, cl_nI (by omega), nI_1]
    refine ⟨(sI σ1 12 0 8 i 0, nI (i + 1)), rfl, rfl, FM.sP e2 (by decide) (by decide), fun v hv => ?_⟩
    simp only [rI_f, upd_eq]
    by_cases e4 : v = i
    · rw [if_pos e4]
    · rw [if_neg e4]; exact e3 v (by omega)
theorem m_counts {σ : Mem} {s p : Nat} {puff beat x y spit : Int32} (hz : ShOk (gI σ 12 0 5, s, p, puff, beat, x, y, spit)) :
    ∃ σ', F12_counts σ (nI s) (nI p) puff beat x y spit = some ((), σ') ∧ FM [28, 29, 30, 31, 33, 34] [] [8] σ σ' ∧
      (∀ v, v < 21 → gI σ' 12 0 8 v = nI (oCnt (gI σ 12 0 5, s, p, puff, beat, x, y, spit) v)) ∧ gI σ' 12 0 0 33 = nI (oAll (gI σ 12 0 5, s, p, puff, beat, x, y, spit)) ∧ gI σ' 12 0 0 34 = nI (oSum (gI σ 12 0 5, s, p, puff, beat, x, y, spit)) := by
  obtain ⟨o, hs, hp, hsp, hpf⟩ := hz
  simp only at o hs hp hsp hpf
  have hn := zN_le (z := (gI σ 12 0 5, s, p, puff, beat, x, y, spit)) ⟨o, hs, hp, hsp, hpf⟩
  have ht := zTurns_le (z := (gI σ 12 0 5, s, p, puff, beat, x, y, spit))
  obtain ⟨r, k1, k2, k3⟩ := m_zL (σ := σ) (x1 := nI s) (x2 := nI p) (x3 := puff) (x4 := beat) (x5 := x) (x6 := y) (x7 := spit)
  unfold F12_counts
  rw [k1]
  obtain ⟨u, σ3⟩ := r
  simp only [bd_some, bnd_eq]
  simp only at k2 k3
  have f5 : FM [28, 29, 30, 31, 33, 34] [] [8] σ (sI (sI σ3 12 0 0 33 1) 12 0 0 34 0) := FM.sI (FM.sI (k2.m (by decide) (by decide) (by decide)) (by decide)) (by decide)
  have c5 : gI (sI (sI σ3 12 0 0 33 1) 12 0 0 34 0) 12 0 5 = gI σ 12 0 5 := f5.c (by decide)
  have a33 : gI (sI (sI σ3 12 0 0 33 1) 12 0 0 34 0) 12 0 0 33 = 1 := by simp (disch := decide) only [rI_s, rI_n]
  have a34 : gI (sI (sI σ3 12 0 0 33 1) 12 0 0 34 0) 12 0 0 34 = 0 := by simp (disch := decide) only [rI_s, rI_n]
  have a8 : ∀ v, v < 21 → gI (sI (sI σ3 12 0 0 33 1) 12 0 0 34 0) 12 0 8 v = 0 := fun v hv => by simp (disch := decide) only [rI_c]; exact k3 v hv
  generalize sI (sI σ3 12 0 0 33 1) 12 0 0 34 0 = s5 at *
  obtain ⟨s7, q1, q2, q3⟩ := m_flies (σ := s5) (puff := puff) (by rw [c5]; exact o) (by rw [c5]; exact hp) hsp
  rw [c5] at q1 q3
  rw [q1, bd_some]
  have f7 : FM [28, 29, 30, 31, 33, 34] [] [8] σ s7 := f5.t (q2.m (by decide) (by decide) (by decide))
  have c7 : gI s7 12 0 5 = gI σ 12 0 5 := f7.c (by decide)
  have b8 : gI s7 12 0 8 = gI s5 12 0 8 := (q2.2.2.2 8 (by decide) (by decide)).1
  have b33 : gI s7 12 0 0 33 = 1 := by rw [q2.1 33 (by decide), a33]
  have b34 : gI s7 12 0 0 34 = 0 := by rw [q2.1 34 (by decide), a34]
  by_cases hf : sFate (gI σ 12 0 5) p puff spit = 0
  · obtain ⟨g1, g2, g3, g4⟩ := q3 hf
    simp only [hf, decide_true, if_true]
    rw [m_hand (by rw [c7]; exact o) (by rw [c7]; exact hs), Option.bind_some, c7]
    have hn2 : sHand (gI σ 12 0 5) s beat = nI (zN (gI σ 12 0 5, s, p, puff, beat, x, y, spit)) := hn.2
    rw [hn2]
    have hO : gI s7 12 0 0 31 = zOff (gI σ 12 0 5, s, p, puff, beat, x, y, spit) := by rw [g4, g1]; rfl
    have fin : ∀ T, T = zTurns (gI σ 12 0 5, s, p, puff, beat, x, y, spit) → ∃ σ', F12_counts_p74 s7 (nI s) x y (nI (zN (gI σ 12 0 5, s, p, puff, beat, x, y, spit))) (nI T) = some ((), σ') ∧ FM [28, 29, 30, 31, 33, 34] [] [8] σ σ' ∧
      (∀ v, v < 21 → gI σ' 12 0 8 v = nI (oCnt (gI σ 12 0 5, s, p, puff, beat, x, y, spit) v)) ∧ gI σ' 12 0 0 33 = nI (oAll (gI σ 12 0 5, s, p, puff, beat, x, y, spit)) ∧ gI σ' 12 0 0 34 = nI (oSum (gI σ 12 0 5, s, p, puff, beat, x, y, spit)) := by
      intro T hT
      unfold F12_counts_p74
      simp only [bnd_eq]
      have w9 : FM [28, 29, 30, 31, 33, 34] [] [8] σ (sI s7 12 0 0 33 ((2 * nI (zN (gI σ 12 0 5, s, p, puff, beat, x, y, spit)) + 1) * (2 * nI (zN (gI σ 12 0 5, s, p, puff, beat, x, y, spit)) + 1) * nI T)) := FM.sI f7 (by decide)
      have c9 := w9.c (show 5 ∉ [8] by decide)
      obtain ⟨r2, m1, m2⟩ := m_aL (σ0 := sI s7 12 0 0 33 ((2 * nI (zN (gI σ 12 0 5, s, p, puff, beat, x, y, spit)) + 1) * (2 * nI (zN (gI σ 12 0 5, s, p, puff, beat, x, y, spit)) + 1) * nI T)) (O := fun _ => 0) (S := 0) (T := T) (n := zN (gI σ 12 0 5, s, p, puff, beat, x, y, spit)) (x := x) (y := y) (s := s) (by omega) hn.1 (by rw [c9]; exact o) (by rw [c9]; exact hs)
        ⟨FM.z, fun v hv => by rw [rI_c (by decide), b8, a8 v hv]; rfl, by rw [rI_n (by decide), b34]; rfl⟩
      rw [m1, bd_some]
      have e30 : gI (sI s7 12 0 0 33 ((2 * nI (zN (gI σ 12 0 5, s, p, puff, beat, x, y, spit)) + 1) * (2 * nI (zN (gI σ 12 0 5, s, p, puff, beat, x, y, spit)) + 1) * nI T)) 12 0 0 30 = sAside (gI σ 12 0 5) (zTime (gI σ 12 0 5, s, p, puff, beat, x, y, spit)) := by rw [rI_n (by decide), g3, g1]; rfl
      have e31 : gI (sI s7 12 0 0 33 ((2 * nI (zN (gI σ 12 0 5, s, p, puff, beat, x, y, spit)) + 1) * (2 * nI (zN (gI σ 12 0 5, s, p, puff, beat, x, y, spit)) + 1) * nI T)) 12 0 0 31 = zOff (gI σ 12 0 5, s, p, puff, beat, x, y, spit) := by rw [rI_n (by decide), hO]
      have e29 : gI (sI s7 12 0 0 33 ((2 * nI (zN (gI σ 12 0 5, s, p, puff, beat, x, y, spit)) + 1) * (2 * nI (zN (gI σ 12 0 5, s, p, puff, beat, x, y, spit)) + 1) * nI T)) 12 0 0 29 = sDrop (zTime (gI σ 12 0 5, s, p, puff, beat, x, y, spit)) := by rw [rI_n (by decide), g2, g1]; rfl
      rw [c9, e30, e31, e29] at m2
      obtain ⟨n1, n2, n3⟩ := m2
      have hfz : zFate (gI σ 12 0 5, s, p, puff, beat, x, y, spit) = 0 := hf
      refine ⟨r2.2, rfl, w9.t (n1.m (by decide) (by decide) (by decide)), fun v hv => ?_, ?_, ?_⟩
      · rw [n2 v hv, oCnt, if_pos hfz, ← hT]; simp only [Nat.zero_add]; rfl
      · rw [n1.1 33 (by decide), rI_s, oAll, if_pos hfz, ← hT, show (2 : Int32) = nI 2 from rfl, pk_mul, nI_1, pk_mul, pk_mul]
      · rw [n3, oSum, if_pos hfz, ← hT]; simp only [Nat.zero_add]; rfl
    rw [hO]
    by_cases ho : zOff (gI σ 12 0 5, s, p, puff, beat, x, y, spit) ≤ 0
    · rw [if_pos ho]
      exact fin 1 (by rw [zTurns, if_pos ho])
    · rw [if_neg ho]
      exact fin 2 (by rw [zTurns, if_neg ho])
  · simp only [hf, decide_false, Bool.false_eq_true, if_false]
    rw [show (0 : Int32) = nI 0 from rfl, chk_nI (by omega) (by omega), cl_nI (by omega)]
    have hfz : ¬ zFate (gI σ 12 0 5, s, p, puff, beat, x, y, spit) = 0 := hf
    refine ⟨_, rfl, FM.sP f7 (by decide) (by decide), fun v hv => ?_, ?_, ?_⟩
    · simp only [rI_f, upd_eq]
      rw [oCnt, if_neg hfz]
      by_cases e : v = 0
      · subst e; rfl
      · rw [if_neg e, one_n e, b8, a8 v hv]; rfl
    · rw [rI_c (by decide), b33, oAll, if_neg hfz]; rfl
    · rw [rI_c (by decide), b34, oSum, if_neg hfz]; rfl
