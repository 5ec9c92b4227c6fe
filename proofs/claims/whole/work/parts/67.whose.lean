/-! PURE. whose, worst, sieve, same. -/
section WHO
variable {σC σM σ σm : Mem} {s p : Int32}
def cE (c : Nat → Int32) (a b : Nat) : Nat := if c (83 + 4 * a) = c (83 + 4 * b) ∧ c (84 + 4 * a) = c (84 + 4 * b) then 1 else 0
theorem cE_comm {c : Nat → Int32} (a b : Nat) : cE c a b = cE c b a := by
  unfold cE
  by_cases h : c (83 + 4 * a) = c (83 + 4 * b) ∧ c (84 + 4 * a) = c (84 + 4 * b)
  · rw [if_pos h, if_pos ⟨h.1.symm, h.2.symm⟩]
  · rw [if_neg h, if_neg (fun e => h ⟨e.1.symm, e.2.symm⟩)]
theorem pairs_eq {f : Nat → Nat → Nat} : ∀ n, su n (fun i => su (n - 1 - i) (fun d => f i (i + 1 + d))) = su n (fun k => su k (fun i => f i k)) := by
  intro n
  induction n with
  | zero => rfl
  | succ n ih =>
    rw [su_s, su_s, ← ih, show n + 1 - 1 - n = 0 by omega, su_0, Nat.add_zero, ← su_add]
    refine su_congr n (fun i hi => ?_)
    rw [show n + 1 - 1 - i = (n - 1 - i) + 1 by omega, su_s, show i + 1 + (n - 1 - i) = n by omega]
theorem c_same (ta : TallyR (TY σ 0) (gI σm 12 0 5)) : F7_couples σ 0 = some (nI (su (nat (gI σm 12 0 5 8)) (fun i => su (nat (gI σm 12 0 5 8) - 1 - i) (fun d => cE (gI σm 12 0 5) i (i + 1 + d))))) := by
  obtain ⟨h8, e8⟩ := ta.ok.n8
  have e1 : gI σ 7 0 0 1 = nI (nat (gI σm 12 0 5 8)) := ta.1.2.trans e8
  have at' := fun k (hk : k < nat (gI σm 12 0 5 8)) => ta.at hk
  generalize nat (gI σm 12 0 5 8) = H at *
  have inner : ∀ i y, i < H → F7_couples_L16 σ 0 (nI i) fuelK (nI y) (nI (i + 1)) = some (nI (y + su (H - 1 - i) (fun d => cE (gI σm 12 0 5) i (i + 1 + d)))) := by
    intro i y hi
    have key : ∃ r, F7_couples_L16 σ 0 (nI i) fuelK (nI y) (nI (i + 1)) = some r ∧ r = nI (y + su (H - 1 - i) (fun d => cE (gI σm 12 0 5) i (i + 1 + d))) := by
      refine loopG (L := fun m (w : Int32 × Int32) => F7_couples_L16 σ 0 (nI i) m w.1 w.2) (N := H - 1 - i)
        (Inv := fun d w => w.2 = nI (i + 1 + d) ∧ w.1 = nI (y + su d (fun d => cE (gI σm 12 0 5) i (i + 1 + d)))) ?_ (H - 1 - i) fuelK 0 (nI y, nI (i + 1)) (by omega) (fuelK_lt (by omega)) ⟨rfl, rfl⟩
      rintro m d ⟨u, w⟩ hd ⟨f1, f2⟩
      simp only at f1 f2
      subst f1; subst f2
      simp only [F7_couples_L16.eq_2]
      rw [e1]
      by_cases e : d = H - 1 - i
      · rw [if_pos (nI_le (by omega) (by omega)), e]
        exact .inl ⟨_, rfl, rfl⟩
      · refine .inr ⟨by omega, ?_⟩
        obtain ⟨a1, a2, -, -⟩ := at' i hi
        obtain ⟨b1, b2, -, -⟩ := at' (i + 1 + d) (by omega)
        rw [if_neg (nI_ge (by omega) (by omega))]
        simp (disch := omega) only [ald_nI, Option.bind_some, a1, a2, b1, b2, nI_1]
        have fin : ∀ z : Int32, z = nI (y + su (d + 1) (fun d => cE (gI σm 12 0 5) i (i + 1 + d))) → ∃ s' : Int32 × Int32, F7_couples_L16 σ 0 (nI i) m z (nI (i + 1 + d + 1)) = F7_couples_L16 σ 0 (nI i) m s'.1 s'.2 ∧ s'.2 = nI (i + 1 + (d + 1)) ∧ s'.1 = nI (y + su (d + 1) (fun d => cE (gI σm 12 0 5) i (i + 1 + d))) := fun z hz => ⟨(z, nI (i + 1 + d + 1)), rfl, rfl, hz⟩
        by_cases h1 : gI σm 12 0 5 (83 + 4 * i) = gI σm 12 0 5 (83 + 4 * (i + 1 + d))
        · rw [if_pos h1]
          by_cases h2 : gI σm 12 0 5 (84 + 4 * i) = gI σm 12 0 5 (84 + 4 * (i + 1 + d))
          · rw [if_pos h2]
            exact fin _ (by rw [su_s, cE, if_pos ⟨h1, h2⟩, Nat.add_assoc])
          · rw [if_neg h2]
            exact fin _ (by rw [su_s, cE, if_neg (fun e => h2 e.2)]; rfl)
        · rw [if_neg h1]
          exact fin _ (by rw [su_s, cE, if_neg (fun e => h1 e.1)]; rfl)
    obtain ⟨r, k1, k2⟩ := key
    rw [k1, k2]
  have key : ∃ r, F7_couples_L4 σ 0 fuelK 0 0 = some r ∧ r = nI (su H (fun i => su (H - 1 - i) (fun d => cE (gI σm 12 0 5) i (i + 1 + d)))) := by
    refine loopG (L := fun m (w : Int32 × Int32) => F7_couples_L4 σ 0 m w.1 w.2) (N := H)
      (Inv := fun i w => w.2 = nI i ∧ w.1 = nI (su i (fun i => su (H - 1 - i) (fun d => cE (gI σm 12 0 5) i (i + 1 + d))))) ?_ H fuelK 0 (0, 0) (by omega) (fuelK_lt (by omega)) ⟨rfl, rfl⟩
    rintro m i ⟨u, w⟩ hi ⟨f1, f2⟩
    simp only at f1 f2
    subst f1; subst f2
    simp only [F7_couples_L4.eq_2]
    rw [e1]
    by_cases e : i = H
    · rw [if_pos (nI_le (by omega) (by omega)), e]
      exact .inl ⟨_, rfl, rfl⟩
    · refine .inr ⟨by omega, ?_⟩
      rw [if_neg (nI_ge (by omega) (by omega)), bnd_eq, nI_1, inner i _ (by omega), Option.bind_some]
      exact ⟨(nI _, nI (i + 1)), rfl, rfl, by rw [su_s]⟩
  obtain ⟨r, k1, k2⟩ := key
  rw [F7_couples, k1, Option.bind_some, k2]
theorem m_same (ok : HolesOk (gI σm 12 0 5)) : F12_same_L14 σm fuelK 0 0 = some (nI (su (nat (gI σm 12 0 5 8)) (fun k => su k (fun i => cE (gI σm 12 0 5) k i)))) := by
  obtain ⟨h8, e8⟩ := ok.n8
  generalize nat (gI σm 12 0 5 8) = H at *
  have inner : ∀ k y, k < H → F12_same_L27 σm (nI k) fuelK (nI y) 0 = some (nI (y + su k (fun i => cE (gI σm 12 0 5) k i))) := by
    intro k y hk
    have key : ∃ r, F12_same_L27 σm (nI k) fuelK (nI y) 0 = some r ∧ r = nI (y + su k (fun i => cE (gI σm 12 0 5) k i)) := by
      refine loopG (L := fun m (w : Int32 × Int32) => F12_same_L27 σm (nI k) m w.1 w.2) (N := k)
        (Inv := fun d w => w.2 = nI d ∧ w.1 = nI (y + su d (fun i => cE (gI σm 12 0 5) k i))) ?_ k fuelK 0 (nI y, 0) (by omega) (fuelK_lt (by omega)) ⟨rfl, rfl⟩
      rintro m d ⟨u, w⟩ hd ⟨f1, f2⟩
      simp only at f1 f2
      subst f1; subst f2
      simp only [F12_same_L27.eq_2]
      by_cases e : d = k
      · rw [if_pos (nI_le (by omega) (by omega)), e]
        exact .inl ⟨_, rfl, rfl⟩
      · refine .inr ⟨by omega, ?_⟩
        rw [if_neg (nI_ge (by omega) (by omega)), ha1, ha1, ha0, ha0]
        simp (disch := omega) only [ald_nI, Option.bind_some, nI_1, bnd_eq, Int32.add_zero]
        have fin : ∀ z : Int32, z = nI (y + su (d + 1) (fun i => cE (gI σm 12 0 5) k i)) → ∃ s' : Int32 × Int32, F12_same_L27 σm (nI k) m z (nI (d + 1)) = F12_same_L27 σm (nI k) m s'.1 s'.2 ∧ s'.2 = nI (d + 1) ∧ s'.1 = nI (y + su (d + 1) (fun i => cE (gI σm 12 0 5) k i)) := fun z hz => ⟨(z, nI (d + 1)), rfl, rfl, hz⟩
        by_cases h1 : gI σm 12 0 5 (83 + 4 * k) = gI σm 12 0 5 (83 + 4 * d)
        · rw [if_pos h1]
          by_cases h2 : gI σm 12 0 5 (84 + 4 * k) = gI σm 12 0 5 (84 + 4 * d)
          · rw [if_pos h2]
            exact fin _ (by rw [su_s, cE, if_pos ⟨h1, h2⟩, Nat.add_assoc])
          · rw [if_neg h2]
            exact fin _ (by rw [su_s, cE, if_neg (fun e => h2 e.2)]; rfl)
        · rw [if_neg h1]
          exact fin _ (by rw [su_s, cE, if_neg (fun e => h1 e.1)]; rfl)
    obtain ⟨r, k1, k2⟩ := key
    rw [k1, k2]
  have key : ∃ r, F12_same_L14 σm fuelK 0 0 = some r ∧ r = nI (su H (fun k => su k (fun i => cE (gI σm 12 0 5) k i))) := by
    refine loopG (L := fun m (w : Int32 × Int32) => F12_same_L14 σm m w.1 w.2) (N := H)
      (Inv := fun i w => w.2 = nI i ∧ w.1 = nI (su i (fun k => su k (fun i => cE (gI σm 12 0 5) k i)))) ?_ H fuelK 0 (0, 0) (by omega) (fuelK_lt (by omega)) ⟨rfl, rfl⟩
    rintro m i ⟨u, w⟩ hi ⟨f1, f2⟩
    simp only at f1 f2
    subst f1; subst f2
    simp only [F12_same_L14.eq_2]
    rw [al_8, Option.bind_some, e8]
    by_cases e : i = H
    · rw [if_pos (nI_le (by omega) (by omega)), e]
      exact .inl ⟨_, rfl, rfl⟩
    · refine .inr ⟨by omega, ?_⟩
      rw [if_neg (nI_ge (by omega) (by omega)), inner i _ (by omega), Option.bind_some, nI_1]
      exact ⟨(nI _, nI (i + 1)), rfl, rfl, by rw [su_s]⟩
  obtain ⟨r, k1, k2⟩ := key
  rw [k1, k2]
theorem st_same (h : Rel σC σM) : Stq (F11_same σC) (F12_same σM) := by
  unfold F11_same F12_same
  rw [bnd_mS, c_same (σm := σM) h.ta]
  have hm := m_same (σm := mS σM) (by rw [mS_c]; exact h.ho)
  rw [mS_c] at hm
  rw [hm, pairs_eq]
  simp only [Option.bind_some, ans_eq, bd_some, cE_comm]
  refine ⟨_, _, _, rfl, ?_, h.ok⟩
  have : (fun k => su k (fun i => cE (gI σM 12 0 5) k i)) = (fun k => su k (fun i => cE (gI σM 12 0 5) i k)) := by funext k; exact su_congr k (fun i _ => cE_comm k i)
  first | rfl | rw [this]
theorem st_sieve (h : Rel σC σM) (x : Int32) : Stq (F11_sieve σC x) (F12_sieve σM x) := by
  have o := h.ok5
  have h8 := ok_n5 o
  have e5 := ok_i5 o
  unfold F11_sieve F12_sieve
  rw [bnd_mS]
  simp only [wi_0, wi_1, isPuffing_w, isSpit_w, isAim_w, isPlace_w, wi_0_8, wi_0_20, wi_0_3, wi_m60_60, wi_m1_1, wi_0_1, wi_m999_999, wi_1_20, wi_1_30, wi_0_99, wi_1_5, wi_0_2, wi_m99_99, wi_1_12, wi_m6_6, wi_0_9999, wi_0_4, wi_1_40]
  by_cases g1 : ¬ F11_within x 1 12 = true
  · simp only [g1, if_false, Bool.false_and, Bool.and_false, Bool.true_and, Bool.and_true, Bool.false_eq_true, if_true, Bool.and_self, ans_eq, ref_eq, agr_eq, den_eq, mref_eq, mno_eq, bd_some, Option.bind_some, ne_2_0, ne_5_0]
    exact ⟨_, _, _, rfl, rfl, h.no 5⟩
  replace g1 := Decidable.not_not.mp g1
  have key : ∃ r q, F11_sieve_L20 σC x fuelK 0 0 = some r ∧ F12_sieve_L32 (mS σM) x fuelK 0 0 = some q ∧ r = q := by
    refine loop2 (L1 := fun n (w : Int32 × Int32) => F11_sieve_L20 σC x n w.1 w.2) (L2 := fun n (w : Int32 × Int32) => F12_sieve_L32 (mS σM) x n w.1 w.2) (N := nat (gI σM 12 0 5 5))
      (Inv := fun i w v => w = v ∧ w.2 = nI i) ?_ (nat (gI σM 12 0 5 5)) fuelK fuelK 0 (0, 0) (0, 0) (by omega) (fuelK_lt (by omega)) (fuelK_lt (by omega)) ⟨rfl, rfl⟩
    rintro n m i ⟨u, w⟩ v hi ⟨e1, e2⟩
    simp only at e2
    subst e1; subst e2
    simp only [F11_sieve_L20.eq_2, F12_sieve_L32.eq_2, gd_at h.t5, mS_c, ix_9, ix_15, ix_21, ix_29, ix_37, ix_45, ix_53, ix_59, ix_65, ix_71, ix_77, ix_83, ix_325, al_0, al_1, al_2, al_3, al_4, al_5, al_6, al_7, al_8, ald_nI, Option.bind_some, bnd_eq, bd_some, h.tt.1.2.2.2.2.1]
    by_cases e : i = nat (gI σM 12 0 5 5)
    · have hle : gI σM 12 0 5 5 ≤ nI i := by rw [e5, e]; exact Int32.le_refl _
      rw [if_pos hle, if_pos hle]
      exact .inl ⟨_, _, rfl, rfl, rfl⟩
    · refine .inr ⟨by omega, ?_⟩
      have hle : ¬ gI σM 12 0 5 5 ≤ nI i := by rw [e5]; exact nI_ge (by omega) (by omega)
      rw [if_neg hle, if_neg hle]
      simp (disch := omega) only [ald_nI, Option.bind_some, (h.tt.2.2.1 i (by omega)).1]
      by_cases hx : x < gI σM 12 0 5 (21 + i)
      · rw [if_pos hx, if_pos hx, Int32.or_zero, nI_1]
        exact ⟨(u, nI (i + 1)), (u, nI (i + 1)), rfl, rfl, rfl, rfl⟩
      · rw [if_neg hx, if_neg hx, nI_1]
        exact ⟨(u ||| (1 <<< (nI i &&& 31)), nI (i + 1)), (u ||| (1 <<< (nI i &&& 31)), nI (i + 1)), rfl, rfl, rfl, rfl⟩
  obtain ⟨r, q, k1, k2, k3⟩ := key
  subst k3
  simp only [g1, if_true, k1, k2, Option.bind_some, ans_eq, bd_some]
  exact ⟨_, _, _, rfl, rfl, h.ok⟩
/-- the one chosen so far; the class holds e times the model's number -/
def OfR (e : Int) (any : Bool) (σ : Mem) (best : Int32) (y4 y6 : Int64) : Prop :=
  (any = false ∧ gB σ 1 0 0 0 = false ∧ best = -1) ∨
  (any = true ∧ gB σ 1 0 0 0 = true ∧ gI σ 1 0 0 1 = best ∧ ¬ best < 0 ∧ (-300000000 ≤ y4.toInt ∧ y4.toInt ≤ 300000000) ∧ (gL σ 1 0 0 2).toInt = e * y4.toInt ∧ ∃ B, 1 ≤ B ∧ B ≤ 3600 ∧ gL σ 1 0 0 3 = lN B ∧ y6 = lN B)
theorem OfR.fg {e : Int} {any : Bool} {σ' : Mem} {best : Int32} {y4 y6 : Int64} (h : OfR e any σ best y4 y6) (f : FC [7] σ σ') : OfR e any σ' best y4 y6 := by
  have e1 : gB σ' 1 0 0 0 = gB σ 1 0 0 0 := by rw [f.fB 1 0 0 (by decide)]
  have e2 : gI σ' 1 0 0 1 = gI σ 1 0 0 1 := by rw [f.fI 1 0 0 (by decide)]
  have e3 : gL σ' 1 0 0 2 = gL σ 1 0 0 2 := by rw [f.fL 1 0 0 (by decide)]
  have e4 : gL σ' 1 0 0 3 = gL σ 1 0 0 3 := by rw [f.fL 1 0 0 (by decide)]
  simp only [OfR, e1, e2, e3, e4] at h ⊢
  exact h
theorem offer_case {e : Int} (he : e = 1 ∨ e = -1) {any : Bool} {best w : Int32} {y4 y6 nt v : Int64} {N : Nat} (h : OfR e any σ best y4 y6) (hw : ¬ w < 0) (hnt : nt.toInt = e * v.toInt) (hv : -300000000 ≤ v.toInt ∧ v.toInt ≤ 300000000) (hN : 1 ≤ N ∧ N ≤ 60) :
    ∃ σ', F1_offer σ w nt (lN (N * N)) = some ((), σ') ∧ FC [1] σ σ' ∧
      ((best < 0 ∧ OfR e true σ' w v (lN (N * N))) ∨ (¬ best < 0 ∧ ∃ B : Nat, y6 = lN B ∧ (v * lN B).toInt = v.toInt * B ∧ (y4 * lN N * lN N).toInt = y4.toInt * (N * N : Nat) ∧
        ((e * (v.toInt * B) ≤ e * (y4.toInt * (N * N : Nat)) ∧ OfR e true σ' best y4 y6) ∨ (e * (y4.toInt * (N * N : Nat)) < e * (v.toInt * B) ∧ OfR e true σ' w v (lN (N * N)))))) := by
  have hNN : N * N ≤ 60 * 60 := Nat.mul_le_mul hN.2 hN.2
  have hN1 : 1 * 1 ≤ N * N := Nat.mul_le_mul hN.1 hN.1
  have rep : ∃ σ', (bnd (sB σ 1 0 0 0 true) fun s_5 => bnd (sI s_5 1 0 0 1 w) fun s_6 => bnd (sL s_6 1 0 0 2 nt) fun s_7 => bnd (sL s_7 1 0 0 3 (lN (N * N))) fun s_8 => some ((), s_8)) = some ((), σ') ∧ FC [1] σ σ' ∧ OfR e true σ' w v (lN (N * N)) := by
    simp only [bnd_eq]
    refine ⟨_, rfl, ?_, .inr ⟨rfl, ?_, ?_, hw, hv, ?_, N * N, by omega, by omega, ?_, rfl⟩⟩
    · repeat' first | exact FC.z | refine FC.sI ?_ (by decide) | refine FC.sL ?_ (by decide) | refine FC.sB ?_ (by decide)
    · simp (disch := decide) only [rI_s, rI_n, rI_f, rI_a, rI_c, rL_s, rL_n, rL_f, rL_a, rL_c, rB_s, rB_n, rB_a, rR_s, rR_n, gI_sL, gI_sB, gI_sR, gL_sI, gL_sB, gL_sR, gB_sI, gB_sL, gB_sR, gR_sI, gR_sL, gR_sB]
    · simp (disch := decide) only [rI_s, rI_n, rI_f, rI_a, rI_c, rL_s, rL_n, rL_f, rL_a, rL_c, rB_s, rB_n, rB_a, rR_s, rR_n, gI_sL, gI_sB, gI_sR, gL_sI, gL_sB, gL_sR, gB_sI, gB_sL, gB_sR, gR_sI, gR_sL, gR_sB]
    · simp (disch := decide) only [rI_s, rI_n, rI_f, rI_a, rI_c, rL_s, rL_n, rL_f, rL_a, rL_c, rB_s, rB_n, rB_a, rR_s, rR_n, gI_sL, gI_sB, gI_sR, gL_sI, gL_sB, gL_sR, gB_sI, gB_sL, gB_sR, gR_sI, gR_sL, gR_sB]; exact hnt
    · simp (disch := decide) only [rI_s, rI_n, rI_f, rI_a, rI_c, rL_s, rL_n, rL_f, rL_a, rL_c, rB_s, rB_n, rB_a, rR_s, rR_n, gI_sL, gI_sB, gI_sR, gL_sI, gL_sB, gL_sR, gB_sI, gB_sL, gB_sR, gR_sI, gR_sL, gR_sB]
  obtain ⟨σ', r1, r2, r3⟩ := rep
  unfold F1_offer
  rcases h with ⟨-, h1, h2⟩ | ⟨-, h1, h2, h3, h4, h5, B, h6, h7, h8, h9⟩
  · rw [h1, if_neg (by decide)]
    exact ⟨σ', r1, r2, .inl ⟨by rw [h2]; decide, r3⟩⟩
  · rw [h1, if_pos rfl, h8]
    have iB := lN_int (n := B) (by omega)
    have iN := lN_int (n := N) (by omega)
    have iNN := lN_int (n := N * N) (by omega)
    have bd1 : ∀ (z : Int) (K : Nat), -300000000 ≤ z → z ≤ 300000000 → K ≤ 3600 → -1080000000000 ≤ z * (K : Int) ∧ z * (K : Int) ≤ 1080000000000 := by
      intro z K z1 z2 hK
      have a1 := Int.mul_le_mul_of_nonneg_right z1 (show (0 : Int) ≤ K by omega)
      have a2 := Int.mul_le_mul_of_nonneg_right z2 (show (0 : Int) ≤ K by omega)
      omega
    have w1 := bd1 v.toInt B hv.1 hv.2 h7
    have w2 := bd1 y4.toInt (N * N) h4.1 h4.2 (by omega)
    have m1 : (v * lN B).toInt = v.toInt * B := by rw [← iB]; exact i64_mul (by rw [iB]; omega) (by rw [iB]; omega)
    have m2 : (y4 * lN N * lN N).toInt = y4.toInt * (N * N : Nat) := by
      rw [Int64.mul_assoc, lN_mul, ← iNN]; exact i64_mul (by rw [iNN]; omega) (by rw [iNN]; omega)
    have m3 : (nt * lN B).toInt = e * (v.toInt * B) := by
      have : nt.toInt * B = e * (v.toInt * B) := by rw [hnt, Int.mul_assoc]
      rw [← this, ← iB]; apply i64_mul <;> rw [iB, this] <;> rcases he with e1 | e1 <;> rw [e1] <;> omega
    have m4 : (gL σ 1 0 0 2 * lN (N * N)).toInt = e * (y4.toInt * (N * N : Nat)) := by
      have : (gL σ 1 0 0 2).toInt * (N * N : Nat) = e * (y4.toInt * (N * N : Nat)) := by rw [h5, Int.mul_assoc]
      rw [← this, ← iNN]; apply i64_mul <;> rw [iNN, this] <;> rcases he with e1 | e1 <;> rw [e1] <;> omega
    by_cases hc : e * (v.toInt * B) ≤ e * (y4.toInt * (N * N : Nat))
    · rw [if_pos (by rw [i64_le, m3, m4]; exact hc)]
      exact ⟨σ, rfl, FC.z, .inr ⟨h3, B, h9, m1, m2, .inl ⟨hc, .inr ⟨rfl, h1, h2, h3, h4, h5, B, h6, h7, h8, h9⟩⟩⟩⟩
    · rw [if_neg (by rw [i64_le, m3, m4]; exact hc)]
      exact ⟨σ', r1, r2, .inr ⟨h3, B, h9, m1, m2, .inr ⟨by omega, r3⟩⟩⟩
theorem whose_L (h : Rel σC σM) {x y : Int32} (hx : -99 ≤ x.toInt ∧ x.toInt ≤ 99) (hy : -99 ≤ y.toInt ∧ y.toInt ≤ 99) (f : FG σC σ) (b : gB σ 1 0 0 0 = false) :
    ∃ (r : Unit × Mem) (q : Int32 × Mem), F11_whose_L37 x y fuelK σ 0 = some r ∧ F12_whose_L55 x y fuelK (mS σM) (-1) 0 1 0 = some q ∧ FG σC r.2 ∧ FMS (mS σM) q.2 ∧ (∃ any y4 y6, OfR (-1) any r.2 q.1 y4 y6) := by
  have h6 := ok_n6 h.ok5
  have e6 := ok_i6 h.ok5
  refine loop2 (L1 := fun n (w : Mem × Int32) => F11_whose_L37 x y n w.1 w.2) (L2 := fun n (w : Mem × Int32 × Int64 × Int64 × Int32) => F12_whose_L55 x y n w.1 w.2.1 w.2.2.1 w.2.2.2.1 w.2.2.2.2) (N := nat (gI σM 12 0 5 6))
    (Inv := fun i w v => w.2 = nI i ∧ v.2.2.2.2 = nI i ∧ FG σC w.1 ∧ FMS (mS σM) v.1 ∧ ∃ any, OfR (-1) any w.1 v.2.1 v.2.2.1 v.2.2.2.1) ?_ (nat (gI σM 12 0 5 6)) fuelK fuelK 0 (σ, 0) (mS σM, -1, 0, 1, 0) (by omega) (fuelK_lt (by omega)) (fuelK_lt (by omega)) ⟨rfl, rfl, f, FM.z, false, .inl ⟨rfl, b, rfl⟩⟩
  rintro n m i ⟨σ1, x3⟩ ⟨σm1, best, y4, y6, x8⟩ hi ⟨e1, e2, f1, g1, any, b1⟩
  simp only at e1 e2 f1 g1 b1
  subst e1; subst e2
  have hc : gI σm1 12 0 5 = gI σM 12 0 5 := (FM.c g1 (by decide)).trans mS_c
  have e13 : gI σ1 9 (gR σC 11 0 0 5) 0 13 = gI σM 12 0 5 6 := by rw [f1.1.fI 9 _ 0 (by decide), h.tt.1.2.2.2.2.2]
  simp only [F11_whose_L37.eq_2, F12_whose_L55.eq_2, f1.1.fR 11 0 0 (by decide), gd_at h.t5, hc, ix_9, ix_15, ix_21, ix_29, ix_37, ix_45, ix_53, ix_59, ix_65, ix_71, ix_77, ix_83, ix_325, al_0, al_1, al_2, al_3, al_4, al_5, al_6, al_7, al_8, ald_nI, Option.bind_some, bnd_eq, bd_some, e13]
  by_cases e : i = nat (gI σM 12 0 5 6)
  · have hle : gI σM 12 0 5 6 ≤ nI i := by rw [e6, e]; exact Int32.le_refl _
    rw [if_pos hle, if_pos hle]
    exact .inl ⟨_, _, rfl, rfl, f1, g1, any, y4, y6, b1⟩
  · refine .inr ⟨by omega, ?_⟩
    have hle : ¬ gI σM 12 0 5 6 ≤ nI i := by rw [e6]; exact nI_ge (by omega) (by omega)
    rw [if_neg hle, if_neg hle]
    obtain ⟨σ2, k1, k2, k3⟩ := c_gather (σ := σ1) (s := nI i) (p := -1) (c := gI σM 12 0 5) (by rw [f1.2 0]; exact h.ta)
    obtain ⟨σm2, m1, m2, m3⟩ := m_sumHoles (σ := σm1) (s := nI i) (p := -1) (by rw [hc]; exact h.ho) (Tol.n i (by omega)) (.inl rfl)
    rw [hc] at m3
    obtain ⟨b4, b5, b6, b7⟩ := h_int h.ho (nI i) (-1)
    obtain ⟨d1, d2, d3⟩ := c_spread k3 b4
    have kn : gI σ2 7 0 0 7 = nI (hC (gI σM 12 0 5) (nI i) (-1) (nat (gI σM 12 0 5 8))) := k3.1
    have f2 : FG σC σ2 := f1.t k2.g
    have g2 : FMS (mS σM) σm2 := FM.t g1 m2.hs
    have b2 := b1.fg k2.1
    have eD : F7_distanceTop σ2 0 x y = (lN (hC (gI σM 12 0 5) (nI i) (-1) (nat (gI σM 12 0 5 8))) * x.toInt64 - hX (gI σM 12 0 5) (nI i) (-1) (nat (gI σM 12 0 5 8))) * (lN (hC (gI σM 12 0 5) (nI i) (-1) (nat (gI σM 12 0 5 8))) * x.toInt64 - hX (gI σM 12 0 5) (nI i) (-1) (nat (gI σM 12 0 5 8))) + (lN (hC (gI σM 12 0 5) (nI i) (-1) (nat (gI σM 12 0 5 8))) * y.toInt64 - hY (gI σM 12 0 5) (nI i) (-1) (nat (gI σM 12 0 5 8))) * (lN (hC (gI σM 12 0 5) (nI i) (-1) (nat (gI σM 12 0 5 8))) * y.toInt64 - hY (gI σM 12 0 5) (nI i) (-1) (nat (gI σM 12 0 5 8))) := by
      unfold F7_distanceTop
      rw [d3, k3.2.1, k3.2.2.1]; rfl
    rw [k1, m1, bd_some, bd_some, m3.1, m3.2.1, m3.2.2.1, kn, d2, eD]
    generalize hC (gI σM 12 0 5) (nI i) (-1) (nat (gI σM 12 0 5 8)) = N at *
    generalize hX (gI σM 12 0 5) (nI i) (-1) (nat (gI σM 12 0 5 8)) = X at *
    generalize hY (gI σM 12 0 5) (nI i) (-1) (nat (gI σM 12 0 5 8)) = Y at *
    by_cases hN : N = 0
    · subst hN
      rw [if_pos (show nI 0 ≤ 0 by decide), if_pos (show lN 0 = 0 from rfl), nI_1]
      exact ⟨(σ2, nI (i + 1)), (σm2, best, y4, y6, nI (i + 1)), rfl, rfl, rfl, rfl, f2, g2, any, b2⟩
    · rw [if_neg (nI_nle (by omega) (by omega)), if_neg (lN_ne0 (by omega) (by omega))]
      simp only [bnd_eq, nI_1, lN_mul]
      have iN := lN_int (n := N) (by omega)
      have axis : ∀ (z : Int32) (Z : Int64), (-99 ≤ z.toInt ∧ z.toInt ≤ 99) → (-5940 ≤ Z.toInt ∧ Z.toInt ≤ 5940) → -11880 ≤ (lN N * z.toInt64 - Z).toInt ∧ (lN N * z.toInt64 - Z).toInt ≤ 11880 := by
        intro z Z hz hZ
        have a1 := Int.mul_le_mul_of_nonneg_left hz.1 (show (0 : Int) ≤ N by omega)
        have a2 := Int.mul_le_mul_of_nonneg_left hz.2 (show (0 : Int) ≤ N by omega)
        have e1 : (lN N * z.toInt64).toInt = N * z.toInt := by rw [i64_mul] <;> rw [iN, i64_of32] <;> omega
        rw [i64_sub] <;> rw [e1] <;> omega
      have ax := axis x X hx b5
      have ay := axis y Y hy b6
      generalize lN N * x.toInt64 - X = P at *
      generalize lN N * y.toInt64 - Y = Q at *
      obtain ⟨s1, s2⟩ := sqI ax.1 ax.2
      obtain ⟨s3, s4⟩ := sqI ay.1 ay.2
      have p1 : (P * P).toInt = P.toInt * P.toInt := i64_mul (by omega) (by omega)
      have p2 : (Q * Q).toInt = Q.toInt * Q.toInt := i64_mul (by omega) (by omega)
      have p3 : (P * P + Q * Q).toInt = P.toInt * P.toInt + Q.toInt * Q.toInt := by rw [i64_add] <;> rw [p1, p2] <;> omega
      generalize P * P + Q * Q = F at *
      obtain ⟨σ3, o1, o2, o3⟩ := offer_case (e := -1) (w := nI i) (nt := -F) (v := F) (N := N) (.inr rfl) b2 (nI_pos (by omega)) (by rw [i64_neg (by omega)]; omega) (by omega) (by omega)
      rw [o1, bd_some]
      have f3 : FG σC σ3 := f2.one o2
      rcases o3 with ⟨o4, o5⟩ | ⟨o4, B, o5, o6, o7, o8⟩
      · rw [if_pos o4]
        exact ⟨(σ3, nI (i + 1)), (σm2, nI i, F, lN (N * N), nI (i + 1)), rfl, rfl, rfl, rfl, f3, g2, true, o5⟩
      · rw [if_neg o4, o5]
        rcases o8 with ⟨o9, o10⟩ | ⟨o9, o10⟩
        · rw [if_neg (by rw [i64_lt, o6, o7]; omega)]
          exact ⟨(σ3, nI (i + 1)), (σm2, best, y4, lN B, nI (i + 1)), rfl, rfl, rfl, rfl, f3, g2, true, by rw [← o5]; exact o10⟩
        · rw [if_pos (by rw [i64_lt, o6, o7]; omega)]
          exact ⟨(σ3, nI (i + 1)), (σm2, nI i, F, lN (N * N), nI (i + 1)), rfl, rfl, rfl, rfl, f3, g2, true, o10⟩
theorem OfR.end (h : Rel σC σM) {e : Int} {any : Bool} {best : Int32} {y4 y6 : Int64} (b : OfR e any σ best y4 y6) (f : FG σC σ) (g : FMS (mS σM) σm) :
    Stq (if gB σ 1 0 0 0 = true then (bd (F11_answer σ (gI σ 1 0 0 1)) fun v_11 s_12 => some (v_11, s_12)) else (bd (F11_refuse σ 8) fun v_9 s_10 => some (v_9, s_10))) (if 0 ≤ best then (some (best, σm)) else (bd (F12_refuse σm 8) fun v_14 s_15 => some (v_14, s_15))) := by
  rcases b with ⟨-, h1, h2⟩ | ⟨-, h1, h2, h3, -⟩
  · rw [h1, h2, if_neg (by decide), if_neg (by decide), ref_eq, mref_eq, bd_some, bd_some]
    exact ⟨_, _, _, rfl, rfl, h.ref f.pcs g 8⟩
  · rw [h1, h2, if_pos rfl, if_pos (Int32.not_lt.mp h3), ans_eq, bd_some]
    exact ⟨_, _, _, rfl, rfl, h.ans f.pcs g⟩
theorem st_whose (h : Rel σC σM) (x y : Int32) : Stq (F11_whose σC x y) (F12_whose σM x y) := by
  unfold F11_whose F12_whose
  rw [bnd_mS]
  simp only [wi_0, wi_1, isPuffing_w, isSpit_w, isAim_w, isPlace_w, wi_0_8, wi_0_20, wi_0_3, wi_m60_60, wi_m1_1, wi_0_1, wi_m999_999, wi_1_20, wi_1_30, wi_0_99, wi_1_5, wi_0_2, wi_m99_99, wi_1_12, wi_m6_6, wi_0_9999, wi_0_4, wi_1_40]
  by_cases g1 : ¬ F11_within x (-99) 99 = true
  · simp only [g1, if_false, Bool.false_and, Bool.and_false, Bool.true_and, Bool.and_true, Bool.false_eq_true, if_true, Bool.and_self, ans_eq, ref_eq, agr_eq, den_eq, mref_eq, mno_eq, bd_some, Option.bind_some, ne_2_0, ne_5_0]
    exact ⟨_, _, _, rfl, rfl, h.no 5⟩
  replace g1 := Decidable.not_not.mp g1
  by_cases g2 : ¬ F11_within y (-99) 99 = true
  · simp only [g1, g2, if_false, Bool.false_and, Bool.and_false, Bool.true_and, Bool.and_true, Bool.false_eq_true, if_true, Bool.and_self, ans_eq, ref_eq, agr_eq, den_eq, mref_eq, mno_eq, bd_some, Option.bind_some, ne_2_0, ne_5_0]
    exact ⟨_, _, _, rfl, rfl, h.no 5⟩
  replace g2 := Decidable.not_not.mp g2
  obtain ⟨σ1, k1, k2, k3⟩ := c_begin (σ := σC)
  obtain ⟨⟨u, σ2⟩, ⟨best, σ3⟩, l1, l2, l3, l4, any, y4, y6, l5⟩ := whose_L h (wn_int g1) (wn_int g2) (FG.z.one k2) k3
  simp only [g1, g2, if_true, k1, l1, l2, bd_some]
  exact OfR.end h l5 l3 l4
theorem worst_L (h : Rel σC σM) {x : Int32} {H : Nat} (hH : H ≤ 8) (e6 : (if x = 0 then gI σM 12 0 5 6 else gI σM 12 0 5 5) = nI H) (f : FG σC σ) (b : gB σ 1 0 0 0 = false) :
    ∃ (r : Unit × Mem) (q : Int32 × Mem), F11_worst_L46 x (nI H) fuelK σ 0 = some r ∧ F12_worst_L36 x fuelK (mS σM) (-1) 0 1 0 = some q ∧ FG σC r.2 ∧ FMS (mS σM) q.2 ∧ (∃ any y4 y6, OfR 1 any r.2 q.1 y4 y6) := by
  refine loop2 (L1 := fun n (w : Mem × Int32) => F11_worst_L46 x (nI H) n w.1 w.2) (L2 := fun n (w : Mem × Int32 × Int64 × Int64 × Int32) => F12_worst_L36 x n w.1 w.2.1 w.2.2.1 w.2.2.2.1 w.2.2.2.2) (N := H)
    (Inv := fun i w v => w.2 = nI i ∧ v.2.2.2.2 = nI i ∧ FG σC w.1 ∧ FMS (mS σM) v.1 ∧ ∃ any, OfR 1 any w.1 v.2.1 v.2.2.1 v.2.2.2.1) ?_ H fuelK fuelK 0 (σ, 0) (mS σM, -1, 0, 1, 0) (by omega) (fuelK_lt (by omega)) (fuelK_lt (by omega)) ⟨rfl, rfl, f, FM.z, false, .inl ⟨rfl, b, rfl⟩⟩
  rintro n m i ⟨σ1, x3⟩ ⟨σm1, best, y4, y6, x8⟩ hi ⟨e1, e2, f1, g1, any, b1⟩
  simp only at e1 e2 f1 g1 b1
  subst e1; subst e2
  have hc : gI σm1 12 0 5 = gI σM 12 0 5 := (FM.c g1 (by decide)).trans mS_c
  have emod : F12_worst_L36 x (m + 1) σm1 best y4 y6 (nI i) = F12_worst_p58 (F12_worst_L36 x m) σm1 x best y4 y6 (nI i) (nI i) (nI H) := by
    simp only [F12_worst_L36.eq_2, hc, ix_9, ix_15, ix_21, ix_29, ix_37, ix_45, ix_53, ix_59, ix_65, ix_71, ix_77, ix_83, ix_325, al_0, al_1, al_2, al_3, al_4, al_5, al_6, al_7, al_8, ald_nI, Option.bind_some, bnd_eq, bd_some]
    by_cases hx : x = 0
    · rw [if_pos hx] at e6; rw [if_pos hx, e6]
    · rw [if_neg hx] at e6; rw [if_neg hx, e6]
  show (∃ r q, F11_worst_L46 x (nI H) (n + 1) σ1 (nI i) = some r ∧ F12_worst_L36 x (m + 1) σm1 best y4 y6 (nI i) = some q ∧ _) ∨ (_ ∧ ∃ (s' : Mem × Int32) (t' : Mem × Int32 × Int64 × Int64 × Int32), F11_worst_L46 x (nI H) (n + 1) σ1 (nI i) = _ ∧ F12_worst_L36 x (m + 1) σm1 best y4 y6 (nI i) = _ ∧ _)
  rw [emod]
  simp only [F11_worst_L46.eq_2, F12_worst_p58]
  by_cases e : i = H
  · have hle : nI H ≤ nI i := by rw [e]; exact Int32.le_refl _
    rw [if_pos hle, if_pos hle]
    exact .inl ⟨_, _, rfl, rfl, f1, g1, any, y4, y6, b1⟩
  · refine .inr ⟨by omega, ?_⟩
    have hle : ¬ nI H ≤ nI i := nI_ge (by omega) (by omega)
    rw [if_neg hle, if_neg hle]
    have key : ∀ s p : Int32, Tol s → Tol p → ∃ (s' : Mem × Int32) (t' : Mem × Int32 × Int64 × Int64 × Int32), F11_worst_p73 (F11_worst_L46 x (nI H) n) σ1 x (nI H) (nI i) 0 s p = F11_worst_L46 x (nI H) n s'.1 s'.2 ∧
        F12_worst_p82 (F12_worst_L36 x m) σm1 x best y4 y6 (nI i) s p = F12_worst_L36 x m t'.1 t'.2.1 t'.2.2.1 t'.2.2.2.1 t'.2.2.2.2 ∧ s'.2 = nI (i + 1) ∧ t'.2.2.2.2 = nI (i + 1) ∧ FG σC s'.1 ∧ FMS (mS σM) t'.1 ∧ ∃ any, OfR 1 any s'.1 t'.2.1 t'.2.2.1 t'.2.2.2.1 := by
      intro s p hs hp
      obtain ⟨σ2, k1, k2, k3⟩ := c_gather (σ := σ1) (s := s) (p := p) (c := gI σM 12 0 5) (by rw [f1.2 0]; exact h.ta)
      obtain ⟨σm2, m1, m2, m3⟩ := m_sumHoles (σ := σm1) (s := s) (p := p) (by rw [hc]; exact h.ho) hs hp
      rw [hc] at m3
      obtain ⟨b4, -, -, -⟩ := h_int h.ho s p
      have b5 := hS_int h.ho s p
      obtain ⟨d1, d2, d3⟩ := c_spread k3 b4
      have d4 := m_spread m3
      have kn : gI σ2 7 0 0 7 = nI (hC (gI σM 12 0 5) s p (nat (gI σM 12 0 5 8))) := k3.1
      have f2 : FG σC σ2 := f1.t k2.g
      have g2 : FMS (mS σM) σm2 := FM.t g1 m2.hs
      have b2 := b1.fg k2.1
      unfold F11_worst_p73 F12_worst_p82
      rw [k1, m1, bd_some, bd_some, m3.1, kn, d1, d2, d4]
      generalize hC (gI σM 12 0 5) s p (nat (gI σM 12 0 5 8)) = N at *
      generalize hS (gI σM 12 0 5) s p (nat (gI σM 12 0 5 8)) = F at *
      by_cases hN : N = 0
      · subst hN
        rw [if_pos (show nI 0 ≤ 0 by decide), if_pos (show lN 0 = 0 from rfl), nI_1]
        exact ⟨(σ2, nI (i + 1)), (σm2, best, y4, y6, nI (i + 1)), rfl, rfl, rfl, rfl, f2, g2, any, b2⟩
      · rw [if_neg (nI_nle (by omega) (by omega)), if_neg (lN_ne0 (by omega) (by omega))]
        simp only [bnd_eq, nI_1, lN_mul]
        obtain ⟨σ3, o1, o2, o3⟩ := offer_case (e := 1) (w := nI i) (nt := F) (v := F) (N := N) (.inl rfl) b2 (nI_pos (by omega)) (by omega) (by omega) (by omega)
        rw [o1, bd_some]
        have f3 : FG σC σ3 := f2.one o2
        rcases o3 with ⟨o4, o5⟩ | ⟨o4, B, o5, o6, o7, o8⟩
        · rw [if_pos o4]
          exact ⟨(σ3, nI (i + 1)), (σm2, nI i, F, lN (N * N), nI (i + 1)), rfl, rfl, rfl, rfl, f3, g2, true, o5⟩
        · rw [if_neg o4, o5]
          rcases o8 with ⟨o9, o10⟩ | ⟨o9, o10⟩
          · rw [if_neg (by rw [i64_lt, o6, o7]; omega)]
            exact ⟨(σ3, nI (i + 1)), (σm2, best, y4, lN B, nI (i + 1)), rfl, rfl, rfl, rfl, f3, g2, true, by rw [← o5]; exact o10⟩
          · rw [if_pos (by rw [i64_lt, o6, o7]; omega)]
            exact ⟨(σ3, nI (i + 1)), (σm2, nI i, F, lN (N * N), nI (i + 1)), rfl, rfl, rfl, rfl, f3, g2, true, o10⟩
    by_cases hx : x = 0
    · rw [if_pos hx, if_pos hx]
      unfold F11_worst_p64 F12_worst_p72
      rw [if_pos hx, if_pos hx]
      exact key _ _ (Tol.n i (by omega)) (.inl rfl)
    · rw [if_neg hx, if_neg hx]
      unfold F11_worst_p64 F12_worst_p72
      rw [if_neg hx, if_neg hx]
      exact key _ _ (.inl rfl) (Tol.n i (by omega))
theorem st_worst (h : Rel σC σM) (x : Int32) : Stq (F11_worst σC x) (F12_worst σM x) := by
  have o := h.ok5
  unfold F11_worst F12_worst
  rw [bnd_mS]
  simp only [wi_0, wi_1, isPuffing_w, isSpit_w, isAim_w, isPlace_w, wi_0_8, wi_0_20, wi_0_3, wi_m60_60, wi_m1_1, wi_0_1, wi_m999_999, wi_1_20, wi_1_30, wi_0_99, wi_1_5, wi_0_2, wi_m99_99, wi_1_12, wi_m6_6, wi_0_9999, wi_0_4, wi_1_40]
  by_cases g1 : ¬ F11_within x 0 1 = true
  · simp only [g1, if_false, Bool.false_and, Bool.and_false, Bool.true_and, Bool.and_true, Bool.false_eq_true, if_true, Bool.and_self, ans_eq, ref_eq, agr_eq, den_eq, mref_eq, mno_eq, bd_some, Option.bind_some, ne_2_0, ne_5_0]
    exact ⟨_, _, _, rfl, rfl, h.no 5⟩
  replace g1 := Decidable.not_not.mp g1
  obtain ⟨σ1, k1, k2, k3⟩ := c_begin (σ := σC)
  by_cases hx : x = 0
  · have e6 := ok_i6 o
    have h6 := ok_n6 o
    obtain ⟨⟨u, σ2⟩, ⟨best, σ3⟩, l1, l2, l3, l4, any, y4, y6, l5⟩ := worst_L (x := x) (H := nat (gI σM 12 0 5 6)) h (by omega) (by rw [if_pos hx]; exact e6) (FG.z.one k2) k3
    rw [← e6] at l1
    simp only [g1, if_true, l2, bd_some]
    rw [if_pos hx, gd_at h.t5, bnd_eq, h.tt.1.2.2.2.2.2, k1, bd_some, l1, bd_some]
    exact OfR.end h l5 l3 l4
  · have e5 := ok_i5 o
    have h5 := ok_n5 o
    obtain ⟨⟨u, σ2⟩, ⟨best, σ3⟩, l1, l2, l3, l4, any, y4, y6, l5⟩ := worst_L (x := x) (H := nat (gI σM 12 0 5 5)) h (by omega) (by rw [if_neg hx]; exact e5) (FG.z.one k2) k3
    rw [← e5] at l1
    simp only [g1, if_true, l2, bd_some]
    rw [if_neg hx, gd_at h.t5, bnd_eq, h.tt.1.2.2.2.2.1, k1, bd_some, l1, bd_some]
    exact OfR.end h l5 l3 l4
end WHO
