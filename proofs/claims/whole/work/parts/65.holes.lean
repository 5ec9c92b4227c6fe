/-! PURE. What is told from the holes. -/
/-- whether hole k is of the shooter s, the pea p (-1: of any) -/
def hit (c : Nat → Int32) (s p : Int32) (k : Nat) : Bool := (decide (s = -1) || decide (c (85 + 4 * k) = s)) && (decide (p = -1) || decide (c (86 + 4 * k) = p))
def hC (c : Nat → Int32) (s p : Int32) : Nat → Nat
  | 0 => 0
  | n + 1 => if hit c s p n = true then hC c s p n + 1 else hC c s p n
def hX (c : Nat → Int32) (s p : Int32) : Nat → Int64
  | 0 => 0
  | n + 1 => if hit c s p n = true then hX c s p n + (c (83 + 4 * n)).toInt64 else hX c s p n
def hY (c : Nat → Int32) (s p : Int32) : Nat → Int64
  | 0 => 0
  | n + 1 => if hit c s p n = true then hY c s p n + (c (84 + 4 * n)).toInt64 else hY c s p n
def hQ (c : Nat → Int32) (s p : Int32) : Nat → Int64
  | 0 => 0
  | n + 1 => if hit c s p n = true then hQ c s p n + (c (83 + 4 * n) * c (83 + 4 * n) + c (84 + 4 * n) * c (84 + 4 * n)).toInt64 else hQ c s p n
/-- the holes in the cells -/
def HolesOk (c : Nat → Int32) : Prop := (0 ≤ c 8 ∧ c 8 ≤ 60) ∧ ∀ k, k < nat (c 8) → (-99 ≤ c (83 + 4 * k) ∧ c (83 + 4 * k) ≤ 99) ∧ (-99 ≤ c (84 + 4 * k) ∧ c (84 + 4 * k) ≤ 99)
theorem TallyR.ok {y : TYV} {c : Nat → Int32} (h : TallyR y c) : HolesOk c := ⟨h.2.1.2, fun k hk => (h.2.2.2 k hk).2⟩
theorem HolesOk.n8 {c : Nat → Int32} (h : HolesOk c) : nat (c 8) ≤ 60 ∧ c 8 = nI (nat (c 8)) := by
  have h1 := b32 h.1
  have := nat_i (c 8); have : (60 : Int32).toInt = 60 := rfl; have : (0 : Int32).toInt = 0 := rfl
  exact ⟨by omega, nI_of32 h.1.1⟩
section HB
variable {c : Nat → Int32} {s p : Int32}
theorem hC_le : ∀ n, hC c s p n ≤ n := by
  intro n
  induction n with
  | zero => exact Nat.le_refl _
  | succ n ih => rw [hC]; split <;> omega
theorem hX_int (h : HolesOk c) : ∀ n, n ≤ nat (c 8) → -(99 * (hC c s p n : Int)) ≤ (hX c s p n).toInt ∧ (hX c s p n).toInt ≤ 99 * (hC c s p n : Int) := by
  have h8 := h.n8.1
  intro n
  induction n with
  | zero => intro _; exact ⟨Int.le_refl _, Int.le_refl _⟩
  | succ n ih =>
    intro hn
    have i1 := ih (by omega)
    have b := b32 (h.2 n (by omega)).1
    have e1 : (-99 : Int32).toInt = -99 := rfl
    have e2 : (99 : Int32).toInt = 99 := rfl
    have hl := hC_le (c := c) (s := s) (p := p) n
    rw [hX, hC]
    by_cases hh : hit c s p n = true
    · rw [if_pos hh, if_pos hh, i64_add] <;> rw [i64_of32] <;> omega
    · rw [if_neg hh, if_neg hh]; exact i1
theorem hY_int (h : HolesOk c) : ∀ n, n ≤ nat (c 8) → -(99 * (hC c s p n : Int)) ≤ (hY c s p n).toInt ∧ (hY c s p n).toInt ≤ 99 * (hC c s p n : Int) := by
  have h8 := h.n8.1
  intro n
  induction n with
  | zero => intro _; exact ⟨Int.le_refl _, Int.le_refl _⟩
  | succ n ih =>
    intro hn
    have i1 := ih (by omega)
    have b := b32 (h.2 n (by omega)).2
    have e1 : (-99 : Int32).toInt = -99 := rfl
    have e2 : (99 : Int32).toInt = 99 := rfl
    have hl := hC_le (c := c) (s := s) (p := p) n
    rw [hY, hC]
    by_cases hh : hit c s p n = true
    · rw [if_pos hh, if_pos hh, i64_add] <;> rw [i64_of32] <;> omega
    · rw [if_neg hh, if_neg hh]; exact i1
theorem sq_int {x : Int32} (h : -99 ≤ x.toInt ∧ x.toInt ≤ 99) : (x * x).toInt = x.toInt * x.toInt ∧ 0 ≤ x.toInt * x.toInt ∧ x.toInt * x.toInt ≤ 9801 := by
  have h0 : 0 ≤ x.toInt * x.toInt := by
    rcases Int.le_total 0 x.toInt with e | e
    · exact Int.mul_nonneg e e
    · exact Int.mul_nonneg_of_nonpos_of_nonpos e e
  have h1 : x.toInt * x.toInt ≤ 9801 := by
    rcases Int.le_total 0 x.toInt with e | e
    · have := Int.mul_le_mul h.2 h.2 e (show (0 : Int) ≤ 99 by omega); omega
    · have := Int.mul_le_mul (a := -x.toInt) (b := -x.toInt) (c := 99) (d := 99) (by omega) (by omega) (by omega) (by omega)
      rw [Int.neg_mul_neg] at this; omega
  exact ⟨i32_mul (by omega) (by omega), h0, h1⟩
theorem hQ_int (h : HolesOk c) : ∀ n, n ≤ nat (c 8) → 0 ≤ (hQ c s p n).toInt ∧ (hQ c s p n).toInt ≤ 19602 * (hC c s p n : Int) := by
  have h8 := h.n8.1
  intro n
  induction n with
  | zero => intro _; exact ⟨Int.le_refl _, Int.le_refl _⟩
  | succ n ih =>
    intro hn
    have i1 := ih (by omega)
    have b1 := b32 (h.2 n (by omega)).1
    have b2 := b32 (h.2 n (by omega)).2
    have e1 : (-99 : Int32).toInt = -99 := rfl
    have e2 : (99 : Int32).toInt = 99 := rfl
    obtain ⟨s1, s2, s3⟩ := sq_int (x := c (83 + 4 * n)) (by omega)
    obtain ⟨t1, t2, t3⟩ := sq_int (x := c (84 + 4 * n)) (by omega)
    have e : (c (83 + 4 * n) * c (83 + 4 * n) + c (84 + 4 * n) * c (84 + 4 * n)).toInt = (c (83 + 4 * n)).toInt * (c (83 + 4 * n)).toInt + (c (84 + 4 * n)).toInt * (c (84 + 4 * n)).toInt := by
      rw [i32_add] <;> rw [s1, t1] <;> omega
    have hl := hC_le (c := c) (s := s) (p := p) n
    rw [hQ, hC]
    by_cases hh : hit c s p n = true
    · rw [if_pos hh, if_pos hh, i64_add] <;> rw [i64_of32, e] <;> omega
    · rw [if_neg hh, if_neg hh]; exact i1
end HB
/-! the class gathers -/
def FG (σ σ' : Mem) : Prop := FC [1, 7] σ σ' ∧ ∀ b, TY σ' b = TY σ b
def F7 (σ σ' : Mem) : Prop := FC [7] σ σ' ∧ ∀ b, TY σ' b = TY σ b
section GA
variable {σ σ1 : Mem} {c : Nat → Int32} {s p : Int32}
theorem F7.g (h : F7 σ σ1) : FG σ σ1 := ⟨h.1.m (by decide), h.2⟩
theorem F7.z : F7 σ σ := ⟨FC.z, fun _ => rfl⟩
theorem FG.z : FG σ σ := ⟨FC.z, fun _ => rfl⟩
theorem FG.t {σ2 : Mem} (h : FG σ σ1) (k : FG σ1 σ2) : FG σ σ2 := ⟨h.1.t k.1, fun b => (k.2 b).trans (h.2 b)⟩
theorem F7.i7 (h : F7 σ σ1) (v : Int32) : F7 σ (sI σ1 7 0 0 7 v) := by
  refine ⟨FC.sI h.1 (by decide), fun b => ?_⟩
  rw [← h.2 b]
  by_cases e : b = 0
  · subst e; simp [TY, sIf, gI, upd]
  · simp [TY, sIf, gI, upd, e]
theorem F7.l7 (h : F7 σ σ1) (k : Nat) (v : Int64) : F7 σ (sL σ1 7 0 0 k v) := ⟨FC.sL h.1 (by decide), fun b => by rw [← h.2 b]; rfl⟩
theorem FG.one {σ2 : Mem} (h : FG σ σ1) (k : FC [1] σ1 σ2) : FG σ σ2 := ⟨h.1.t (k.m (by decide)), fun b => by
  rw [← h.2 b]; simp only [TY, k.fI 7 _ _ (show 7 ∉ [1] by decide)]⟩
theorem FG.pcs (h : FG σ σ1) : PCS σ σ1 := by
  refine ⟨?_, h.1.fL 11 0 0 (by decide)⟩
  obtain ⟨f, g⟩ := h
  simp only [PC, g, gI, gL, gB, f 4 (by decide), f 5 (by decide), f 8 (by decide), f 9 (by decide), f 10 (by decide), f 11 (by decide)]
theorem F7.pcs (h : F7 σ σ1) : PCS σ σ1 := h.g.pcs
/-- what is gathered so far -/
def Gat (σ : Mem) (c : Nat → Int32) (s p : Int32) (n : Nat) : Prop := gI σ 7 0 0 7 = nI (hC c s p n) ∧ gL σ 7 0 0 8 = hX c s p n ∧ gL σ 7 0 0 9 = hY c s p n ∧ gL σ 7 0 0 10 = hQ c s p n
theorem TallyR.at {σ : Mem} (h : TallyR (TY σ 0) c) {k : Nat} (hk : k < nat (c 8)) : gI σ 7 0 1 k = c (83 + 4 * k) ∧ gI σ 7 0 2 k = c (84 + 4 * k) ∧ gI σ 7 0 3 k = c (85 + 4 * k) ∧ gI σ 7 0 4 k = c (86 + 4 * k) := (h.2.2.2 k hk).1
theorem c_gather (h : TallyR (TY σ 0) c) : ∃ σ', F7_gather σ 0 s p = some ((), σ') ∧ F7 σ σ' ∧ Gat σ' c s p (nat (c 8)) := by
  obtain ⟨h8, e8⟩ := h.ok.n8
  have key : ∀ σ0, F7 σ σ0 → Gat σ0 c s p 0 → ∃ r, F7_gather_L22 0 s p fuelK σ0 0 = some r ∧ F7 σ r.2 ∧ Gat r.2 c s p (nat (c 8)) := by
    intro σ0 g0 q0
    refine loopG (L := fun m (w : Mem × Int32) => F7_gather_L22 0 s p m w.1 w.2) (N := nat (c 8))
      (Inv := fun i w => w.2 = nI i ∧ F7 σ w.1 ∧ Gat w.1 c s p i) ?_ (nat (c 8)) fuelK 0 (σ0, 0) (by omega) (fuelK_lt (by omega)) ⟨rfl, g0, q0⟩
    rintro m i ⟨τ, w⟩ hi ⟨e1, e2, e3⟩
    simp only at e1 e2 e3
    subst e1
    have hτ : TallyR (TY τ 0) c := by rw [e2.2 0]; exact h
    have en : gI τ 7 0 0 1 = nI (nat (c 8)) := hτ.1.2.trans e8
    simp only [F7_gather_L22.eq_2]
    rw [en]
    by_cases e : i = nat (c 8)
    · rw [if_pos (by rw [e]; exact Int32.le_refl _)]
      rw [e] at e3
      exact .inl ⟨_, rfl, e2, e3⟩
    · refine .inr ⟨by omega, ?_⟩
      obtain ⟨a1, a2, a3, a4⟩ := hτ.at (k := i) (by omega)
      rw [if_neg (nI_ge (by omega) (by omega))]
      -- a hole that is not meant
      have no : hit c s p i = false → ∃ s' : Mem × Int32, F7_gather_L22 0 s p m τ (nI i + 1) = F7_gather_L22 0 s p m s'.1 s'.2 ∧ s'.2 = nI (i + 1) ∧ F7 σ s'.1 ∧ Gat s'.1 c s p (i + 1) := by
        intro hh
        refine ⟨(τ, nI (i + 1)), by rw [nI_1], rfl, e2, ?_⟩
        simp only [Gat, hC, hX, hY, hQ, hh, Bool.false_eq_true, if_false]
        exact e3
      have yes : hit c s p i = true → ∃ s' : Mem × Int32, F7_gather_p72 (F7_gather_L22 0 s p m) τ 0 s p (nI i) true true = F7_gather_L22 0 s p m s'.1 s'.2 ∧ s'.2 = nI (i + 1) ∧ F7 σ s'.1 ∧ Gat s'.1 c s p (i + 1) := by
        intro hh
        unfold F7_gather_p72
        simp (disch := omega) only [if_true, bnd_eq, ald_nI, Option.bind_some, gI_sL, nI_1]
        simp (disch := decide) only [rI_c, a1, a2]
        have fin : ∀ τ' : Mem, F7 σ τ' → Gat τ' c s p (i + 1) → ∃ s' : Mem × Int32, F7_gather_L22 0 s p m τ' (nI (i + 1)) = F7_gather_L22 0 s p m s'.1 s'.2 ∧ s'.2 = nI (i + 1) ∧ F7 σ s'.1 ∧ Gat s'.1 c s p (i + 1) := fun τ' k1 k2 => ⟨(τ', nI (i + 1)), rfl, rfl, k1, k2⟩
        obtain ⟨b1, b2, b3, b4⟩ := e3
        refine fin _ ((((e2.i7 _).l7 _ _).l7 _ _).l7 _ _) ⟨?_, ?_, ?_, ?_⟩
        · simp (disch := decide) only [rI_s, rI_n, rI_f, rI_a, rI_c, rL_s, rL_n, rL_f, rL_a, rL_c, rB_s, rB_n, rB_a, rR_s, rR_n, gI_sL, gI_sB, gI_sR, gL_sI, gL_sB, gL_sR, gB_sI, gB_sL, gB_sR, gR_sI, gR_sL, gR_sB]; rw [b1, hC, if_pos hh, nI_1]
        · simp (disch := decide) only [rI_s, rI_n, rI_f, rI_a, rI_c, rL_s, rL_n, rL_f, rL_a, rL_c, rB_s, rB_n, rB_a, rR_s, rR_n, gI_sL, gI_sB, gI_sR, gL_sI, gL_sB, gL_sR, gB_sI, gB_sL, gB_sR, gR_sI, gR_sL, gR_sB]; rw [b2, hX, if_pos hh]
        · simp (disch := decide) only [rI_s, rI_n, rI_f, rI_a, rI_c, rL_s, rL_n, rL_f, rL_a, rL_c, rB_s, rB_n, rB_a, rR_s, rR_n, gI_sL, gI_sB, gI_sR, gL_sI, gL_sB, gL_sR, gB_sI, gB_sL, gB_sR, gR_sI, gR_sL, gR_sB]; rw [b3, hY, if_pos hh]
        · simp (disch := decide) only [rI_s, rI_n, rI_f, rI_a, rI_c, rL_s, rL_n, rL_f, rL_a, rL_c, rB_s, rB_n, rB_a, rR_s, rR_n, gI_sL, gI_sB, gI_sR, gL_sI, gL_sB, gL_sR, gB_sI, gB_sL, gB_sR, gR_sI, gR_sL, gR_sB]; rw [b4, hQ, if_pos hh]
      have p50 : ∀ b : Bool, (decide (s = -1) || decide (c (85 + 4 * i) = s)) = b → ∃ s' : Mem × Int32, F7_gather_p50 (F7_gather_L22 0 s p m) τ 0 s p (nI i) b = F7_gather_L22 0 s p m s'.1 s'.2 ∧ s'.2 = nI (i + 1) ∧ F7 σ s'.1 ∧ Gat s'.1 c s p (i + 1) := by
        intro b hb
        unfold F7_gather_p50
        rw [ald_nI (by omega) (by omega), Option.bind_some, a4]
        have go : ∀ q : Bool, (decide (p = -1) || decide (c (86 + 4 * i) = p)) = q → ∃ s' : Mem × Int32, F7_gather_p72 (F7_gather_L22 0 s p m) τ 0 s p (nI i) b q = F7_gather_L22 0 s p m s'.1 s'.2 ∧ s'.2 = nI (i + 1) ∧ F7 σ s'.1 ∧ Gat s'.1 c s p (i + 1) := by
          intro q hq
          have hh : hit c s p i = (b && q) := by rw [hit, hb, hq]
          cases b with
          | false =>
            rw [Bool.false_and] at hh
            unfold F7_gather_p72
            rw [if_neg (by decide)]; exact no hh
          | true =>
            cases q with
            | false =>
              unfold F7_gather_p72
              rw [if_pos rfl, if_neg (by decide)]; exact no hh
            | true => exact yes hh
        by_cases hp1 : p = -1
        · rw [if_pos hp1]; exact go true (by simp [hp1])
        · rw [if_neg hp1]
          by_cases hp2 : c (86 + 4 * i) = p
          · rw [if_pos hp2]; exact go true (by simp [hp2])
          · rw [if_neg hp2]; exact go false (by simp [hp1, hp2])
      rw [ald_nI (by omega) (by omega), Option.bind_some, a3]
      by_cases hs1 : s = -1
      · rw [if_pos hs1]; exact p50 true (by simp [hs1])
      · rw [if_neg hs1]
        by_cases hs2 : c (85 + 4 * i) = s
        · rw [if_pos hs2]; exact p50 true (by simp [hs2])
        · rw [if_neg hs2]; exact p50 false (by simp [hs1, hs2])
  unfold F7_gather
  simp only [bnd_eq]
  obtain ⟨⟨u, σ'⟩, k1, k2, k3⟩ := key _ ((((F7.z (σ := σ)).i7 0).l7 8 0).l7 9 0 |>.l7 10 0) ⟨by simp (disch := decide) only [rI_s, rI_n, rI_f, rI_a, rI_c, rL_s, rL_n, rL_f, rL_a, rL_c, rB_s, rB_n, rB_a, rR_s, rR_n, gI_sL, gI_sB, gI_sR, gL_sI, gL_sB, gL_sR, gB_sI, gB_sL, gB_sR, gR_sI, gR_sL, gR_sB]; rfl, by simp (disch := decide) only [rI_s, rI_n, rI_f, rI_a, rI_c, rL_s, rL_n, rL_f, rL_a, rL_c, rB_s, rB_n, rB_a, rR_s, rR_n, gI_sL, gI_sB, gI_sR, gL_sI, gL_sB, gL_sR, gB_sI, gB_sL, gB_sR, gR_sI, gR_sL, gR_sB]; rfl, by simp (disch := decide) only [rI_s, rI_n, rI_f, rI_a, rI_c, rL_s, rL_n, rL_f, rL_a, rL_c, rB_s, rB_n, rB_a, rR_s, rR_n, gI_sL, gI_sB, gI_sR, gL_sI, gL_sB, gL_sR, gB_sI, gB_sL, gB_sR, gR_sI, gR_sL, gR_sB]; rfl, by simp (disch := decide) only [rI_s, rI_n, rI_f, rI_a, rI_c, rL_s, rL_n, rL_f, rL_a, rL_c, rB_s, rB_n, rB_a, rR_s, rR_n, gI_sL, gI_sB, gI_sR, gL_sI, gL_sB, gL_sR, gB_sI, gB_sL, gB_sR, gR_sI, gR_sL, gR_sB]; rfl⟩
  exact ⟨σ', by rw [k1, bd_some], k2, k3⟩
end GA
/-! the model sums -/
section MG
variable {σ : Mem} {s p : Int32}
theorem ha0 (k : Nat) : F12_holeAt (nI k) = nI (83 + 4 * k) := by rw [F12_holeAt, show (4 : Int32) = nI 4 from rfl, pk_mul, show (83 : Int32) = nI 83 from rfl, nI_add]
theorem ha1 (k : Nat) : F12_holeAt (nI k) + 1 = nI (84 + 4 * k) := by rw [ha0, show (1 : Int32) = nI 1 from rfl, nI_add, show 83 + 4 * k + 1 = 84 + 4 * k by omega]
theorem ha2 (k : Nat) : F12_holeAt (nI k) + 2 = nI (85 + 4 * k) := by rw [ha0, show (2 : Int32) = nI 2 from rfl, nI_add, show 83 + 4 * k + 2 = 85 + 4 * k by omega]
theorem ha3 (k : Nat) : F12_holeAt (nI k) + 3 = nI (86 + 4 * k) := by rw [ha0, show (3 : Int32) = nI 3 from rfl, nI_add, show 83 + 4 * k + 3 = 86 + 4 * k by omega]
/-- a shooter or a pea that is told, or -1 -/
def Tol (x : Int32) : Prop := x = -1 ∨ ¬ x < 0
theorem Tol.i {x : Int32} (h : Tol x) : x < 0 ↔ x = -1 := by
  rcases h with h | h
  · subst h; exact ⟨fun _ => rfl, fun _ => by decide⟩
  · exact ⟨fun e => absurd e h, fun e => by subst e; exact absurd (by decide) h⟩
theorem Tol.n (k : Nat) (hk : k < 2147483648) : Tol (nI k) := .inr (nI_pos hk)
theorem m_hit (hs : Tol s) (hp : Tol p) {k : Nat} (hk : k < 60) : F12_isHoleOf σ (nI k) s p = some (hit (gI σ 12 0 5) s p k) := by
  have p19 : F12_isHoleOf_p19 σ (nI k) p = some (decide (p = -1) || decide (gI σ 12 0 5 (86 + 4 * k) = p)) := by
    unfold F12_isHoleOf_p19
    rw [ha3, ald_nI (by omega) (by omega), Option.bind_some]
    by_cases h1 : p = -1
    · rw [if_pos (hp.i.mpr h1)]; simp [h1]
    · rw [if_neg (fun e => h1 (hp.i.mp e))]
      by_cases h2 : gI σ 12 0 5 (86 + 4 * k) = p
      · rw [if_pos h2]; simp [h2]
      · rw [if_neg h2]; simp [h1, h2]
  unfold F12_isHoleOf
  rw [ha2, ald_nI (by omega) (by omega), Option.bind_some, p19]
  by_cases h1 : s = -1
  · rw [if_pos (hs.i.mpr h1), hit]; simp [h1]
  · rw [if_neg (fun e => h1 (hs.i.mp e)), hit]
    by_cases h2 : gI σ 12 0 5 (85 + 4 * k) = s
    · rw [if_pos h2]; simp [h2]
    · rw [if_neg h2]; simp [h1, h2]
theorem m_holesOf (ok : HolesOk (gI σ 12 0 5)) (hs : Tol s) (hp : Tol p) : F12_holesOf σ s p = some (nI (hC (gI σ 12 0 5) s p (nat (gI σ 12 0 5 8)))) := by
  obtain ⟨h8, e8⟩ := ok.n8
  generalize nat (gI σ 12 0 5 8) = H at *
  have key : ∃ r, F12_holesOf_L5 σ s p fuelK 0 0 = some r ∧ r = nI (hC (gI σ 12 0 5) s p H) := by
    refine loopG (L := fun m (w : Int32 × Int32) => F12_holesOf_L5 σ s p m w.1 w.2) (N := H)
      (Inv := fun i w => w.2 = nI i ∧ w.1 = nI (hC (gI σ 12 0 5) s p i)) ?_ H fuelK 0 (0, 0) (by omega) (fuelK_lt (by omega)) ⟨rfl, rfl⟩
    rintro m i ⟨y, w⟩ hi ⟨e1, e2⟩
    simp only at e1 e2
    subst e1; subst e2
    simp only [F12_holesOf_L5.eq_2]
    rw [al_8, Option.bind_some, e8]
    by_cases e : i = H
    · rw [if_pos (by rw [e]; exact Int32.le_refl _), e]
      exact .inl ⟨_, rfl, rfl⟩
    · refine .inr ⟨by omega, ?_⟩
      rw [if_neg (nI_ge (by omega) (by omega)), m_hit hs hp (by omega), Option.bind_some, nI_1]
      have fin : ∀ y : Int32, y = nI (hC (gI σ 12 0 5) s p (i + 1)) → ∃ s' : Int32 × Int32, F12_holesOf_L5 σ s p m y (nI (i + 1)) = F12_holesOf_L5 σ s p m s'.1 s'.2 ∧ s'.2 = nI (i + 1) ∧ s'.1 = nI (hC (gI σ 12 0 5) s p (i + 1)) := fun y hy => ⟨(y, nI (i + 1)), rfl, rfl, hy⟩
      by_cases hh : hit (gI σ 12 0 5) s p i = true
      · simp only [hh, if_true, bnd_eq, nI_1]
        exact fin _ (by rw [hC, if_pos hh])
      · simp only [hh, Bool.false_eq_true, if_false, bnd_eq, nI_1, Int32.add_zero]
        exact fin _ (by rw [hC, if_neg hh])
  obtain ⟨r, k1, k2⟩ := key
  rw [F12_holesOf, k1, Option.bind_some, k2]
def Sum (σ : Mem) (c : Nat → Int32) (s p : Int32) (n : Nat) : Prop := gL σ 12 0 0 42 = lN (hC c s p n) ∧ gL σ 12 0 0 43 = hX c s p n ∧ gL σ 12 0 0 44 = hY c s p n ∧ gL σ 12 0 0 45 = hQ c s p n
theorem m_sumHoles (ok : HolesOk (gI σ 12 0 5)) (hs : Tol s) (hp : Tol p) : ∃ σ', F12_sumHoles σ s p = some ((), σ') ∧ FM [] [42, 43, 44, 45] [] σ σ' ∧ Sum σ' (gI σ 12 0 5) s p (nat (gI σ 12 0 5 8)) := by
  obtain ⟨h8, e8⟩ := ok.n8
  generalize nat (gI σ 12 0 5 8) = H at *
  have key : ∀ σ0, FM [] [42, 43, 44, 45] [] σ σ0 → Sum σ0 (gI σ 12 0 5) s p 0 → ∃ r, F12_sumHoles_L22 s p fuelK σ0 0 = some r ∧ FM [] [42, 43, 44, 45] [] σ r.2 ∧ Sum r.2 (gI σ 12 0 5) s p H := by
    intro σ0 g0 q0
    refine loopG (L := fun m (w : Mem × Int32) => F12_sumHoles_L22 s p m w.1 w.2) (N := H)
      (Inv := fun i w => w.2 = nI i ∧ FM [] [42, 43, 44, 45] [] σ w.1 ∧ Sum w.1 (gI σ 12 0 5) s p i) ?_ H fuelK 0 (σ0, 0) (by omega) (fuelK_lt (by omega)) ⟨rfl, g0, q0⟩
    rintro m i ⟨τ, w⟩ hi ⟨e1, e2, e3⟩
    simp only at e1 e2 e3
    subst e1
    have hc : gI τ 12 0 5 = gI σ 12 0 5 := e2.c (by decide)
    simp only [F12_sumHoles_L22.eq_2]
    rw [al_8, Option.bind_some, hc, e8]
    by_cases e : i = H
    · rw [if_pos (by rw [e]; exact Int32.le_refl _)]
      rw [e] at e3
      exact .inl ⟨_, rfl, e2, e3⟩
    · refine .inr ⟨by omega, ?_⟩
      rw [if_neg (nI_ge (by omega) (by omega)), m_hit hs hp (by omega), Option.bind_some, hc, ha1, ha0, ald_nI (by omega) (by omega), ald_nI (by omega) (by omega), Option.bind_some, Option.bind_some, nI_1]
      obtain ⟨b1, b2, b3, b4⟩ := e3
      by_cases hh : hit (gI σ 12 0 5) s p i = true
      · rw [if_pos hh]
        simp only [bnd_eq]
        have fin : ∀ τ' : Mem, FM [] [42, 43, 44, 45] [] σ τ' → Sum τ' (gI σ 12 0 5) s p (i + 1) → ∃ s' : Mem × Int32, F12_sumHoles_L22 s p m τ' (nI (i + 1)) = F12_sumHoles_L22 s p m s'.1 s'.2 ∧ s'.2 = nI (i + 1) ∧ FM [] [42, 43, 44, 45] [] σ s'.1 ∧ Sum s'.1 (gI σ 12 0 5) s p (i + 1) := fun τ' k1 k2 => ⟨(τ', nI (i + 1)), rfl, rfl, k1, k2⟩
        refine fin _ (FM.sL (FM.sL (FM.sL (FM.sL e2 (by decide)) (by decide)) (by decide)) (by decide)) ⟨?_, ?_, ?_, ?_⟩
        · simp (disch := decide) only [rI_s, rI_n, rI_f, rI_a, rI_c, rL_s, rL_n, rL_f, rL_a, rL_c, rB_s, rB_n, rB_a, rR_s, rR_n, gI_sL, gI_sB, gI_sR, gL_sI, gL_sB, gL_sR, gB_sI, gB_sL, gB_sR, gR_sI, gR_sL, gR_sB]; rw [b1, hC, if_pos hh, lN_1]
        · simp (disch := decide) only [rI_s, rI_n, rI_f, rI_a, rI_c, rL_s, rL_n, rL_f, rL_a, rL_c, rB_s, rB_n, rB_a, rR_s, rR_n, gI_sL, gI_sB, gI_sR, gL_sI, gL_sB, gL_sR, gB_sI, gB_sL, gB_sR, gR_sI, gR_sL, gR_sB]; rw [b2, hX, if_pos hh]
        · simp (disch := decide) only [rI_s, rI_n, rI_f, rI_a, rI_c, rL_s, rL_n, rL_f, rL_a, rL_c, rB_s, rB_n, rB_a, rR_s, rR_n, gI_sL, gI_sB, gI_sR, gL_sI, gL_sB, gL_sR, gB_sI, gB_sL, gB_sR, gR_sI, gR_sL, gR_sB]; rw [b3, hY, if_pos hh]
        · simp (disch := decide) only [rI_s, rI_n, rI_f, rI_a, rI_c, rL_s, rL_n, rL_f, rL_a, rL_c, rB_s, rB_n, rB_a, rR_s, rR_n, gI_sL, gI_sB, gI_sR, gL_sI, gL_sB, gL_sR, gB_sI, gB_sL, gB_sR, gR_sI, gR_sL, gR_sB]; rw [b4, hQ, if_pos hh]
      · rw [if_neg hh]
        refine ⟨(_, _), rfl, rfl, e2, ?_⟩
        simp only [Sum, hC, hX, hY, hQ, hh, Bool.false_eq_true, if_false]
        exact ⟨b1, b2, b3, b4⟩
  unfold F12_sumHoles
  simp only [bnd_eq]
  obtain ⟨⟨u, σ'⟩, k1, k2, k3⟩ := key (sL (sL (sL (sL σ 12 0 0 42 0) 12 0 0 43 0) 12 0 0 44 0) 12 0 0 45 0) (FM.sL (FM.sL (FM.sL (FM.sL FM.z (show 42 ∈ [42, 43, 44, 45] by decide)) (show 43 ∈ [42, 43, 44, 45] by decide)) (show 44 ∈ [42, 43, 44, 45] by decide)) (show 45 ∈ [42, 43, 44, 45] by decide)) ⟨by simp (disch := decide) only [rI_s, rI_n, rI_f, rI_a, rI_c, rL_s, rL_n, rL_f, rL_a, rL_c, rB_s, rB_n, rB_a, rR_s, rR_n, gI_sL, gI_sB, gI_sR, gL_sI, gL_sB, gL_sR, gB_sI, gB_sL, gB_sR, gR_sI, gR_sL, gR_sB]; rfl, by simp (disch := decide) only [rI_s, rI_n, rI_f, rI_a, rI_c, rL_s, rL_n, rL_f, rL_a, rL_c, rB_s, rB_n, rB_a, rR_s, rR_n, gI_sL, gI_sB, gI_sR, gL_sI, gL_sB, gL_sR, gB_sI, gB_sL, gB_sR, gR_sI, gR_sL, gR_sB]; rfl, by simp (disch := decide) only [rI_s, rI_n, rI_f, rI_a, rI_c, rL_s, rL_n, rL_f, rL_a, rL_c, rB_s, rB_n, rB_a, rR_s, rR_n, gI_sL, gI_sB, gI_sR, gL_sI, gL_sB, gL_sR, gB_sI, gB_sL, gB_sR, gR_sI, gR_sL, gR_sB]; rfl, by simp (disch := decide) only [rI_s, rI_n, rI_f, rI_a, rI_c, rL_s, rL_n, rL_f, rL_a, rL_c, rB_s, rB_n, rB_a, rR_s, rR_n, gI_sL, gI_sB, gI_sR, gL_sI, gL_sB, gL_sR, gB_sI, gB_sL, gB_sR, gR_sI, gR_sL, gR_sB]; rfl⟩
  exact ⟨σ', by rw [k1, bd_some], k2, k3⟩
end MG
