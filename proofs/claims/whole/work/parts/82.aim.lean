/-! PURE. bestAim: the class's sums. -/
theorem su_fst (f : Nat → Nat) : ∀ m, su (m + 1) f = f 0 + su m (fun k => f (k + 1)) := by
  intro m
  induction m with
  | zero => simp [su_s, su_0]
  | succ m ih => rw [su_s, ih, su_s]; omega
section AIM
variable {σ σ1 : Mem} {t n i j : Nat} {c : Nat → Int32} {X Y0 k : Int32} {F : Nat → Nat} {z : ShN}
def colF (c : Nat → Int32) (X Y0 : Int32) (b : Nat) : Nat := nat (sPts c X (Y0 + nI b))
theorem colF_nI (o : TentOk c) (b : Nat) : sPts c X (Y0 + nI b) = nI (colF c X Y0 b) := nI_of32 (i32_le.mpr (sPts_int o _ _).1)
theorem c_colFill (ht : TentT (gI σ 9 t) c) (o : TentOk c) (hn : n ≤ 6) : ∃ r, F0_addColumn_L22 t X k Y0 (nI (2 * n)) fuelK σ 0 = some r ∧ ∃ g : Nat → Int32, r.2 = sIf σ 0 0 2 g ∧ ∀ j, j < 41 + 2 * n → g j = nI (colF c X Y0 j) := by
  refine loopG (L := fun m (w : Mem × Int32) => F0_addColumn_L22 t X k Y0 (nI (2 * n)) m w.1 w.2) (N := 41 + 2 * n)
    (Inv := fun i w => w.2 = nI i ∧ ∃ g : Nat → Int32, w.1 = sIf σ 0 0 2 g ∧ ∀ j, j < i → g j = nI (colF c X Y0 j)) ?_ (41 + 2 * n) fuelK 0 (σ, 0) (by omega) (fuelK_lt (by omega)) ⟨rfl, gI σ 0 0 2, sIf_self.symm, fun j hj => absurd hj (by omega)⟩
  rintro m i ⟨τ1, w⟩ hi ⟨e1, g, e2, e3⟩
  simp only at e1 e2
  subst e1; subst e2
  simp only [F0_addColumn_L22.eq_2]
  rw [show (41 : Int32) + nI (2 * n) = nI (41 + 2 * n) from nI_add 41 (2 * n)]
  by_cases e : i = 41 + 2 * n
  · subst e
    exact .inl ⟨_, by rw [if_pos (Int32.le_refl _)], g, rfl, e3⟩
  · refine .inr ⟨by omega, ?_⟩
    rw [if_neg (nI_ge (by omega) (by omega)), c_pts (ht.fc (S := [0]) (FC.I (by decide)) (by decide)) o, Option.bind_some, colF_nI o, chk_nI (by omega) (by omega), bnd_eq, cl_nI (by omega), nI_1]
    refine ⟨(sIf σ 0 0 2 (upd g i (nI (colF c X Y0 i))), nI (i + 1)), ?_, rfl, _, rfl, fun j hj => ?_⟩
    · simp only [sIf_sIf, rI_f]
    · rw [upd_eq]
      by_cases e5 : j = i
      · rw [if_pos e5, e5]
      · rw [if_neg e5]; exact e3 j (by omega)
theorem c_colSum (hn : n ≤ 6) (hg : ∀ j, j < 41 + 2 * n → gI σ 0 0 2 j = nI (F j)) : ∃ r, F0_addColumn_L61 σ k (nI (2 * n)) fuelK 0 0 = some r ∧ r = nI (su (2 * n) F) := by
  refine loopG (L := fun m (w : Int32 × Int32) => F0_addColumn_L61 σ k (nI (2 * n)) m w.1 w.2) (N := 2 * n)
    (Inv := fun i w => w.2 = nI i ∧ w.1 = nI (su i F)) ?_ (2 * n) fuelK 0 (0, 0) (by omega) (fuelK_lt (by omega)) ⟨rfl, rfl⟩
  rintro m i ⟨u, w⟩ hi ⟨e1, e2⟩
  simp only at e1 e2
  subst e1; subst e2
  simp only [F0_addColumn_L61.eq_2]
  by_cases e : i = 2 * n
  · subst e
    exact .inl ⟨_, by rw [if_pos (Int32.le_refl _)], rfl⟩
  · refine .inr ⟨by omega, ?_⟩
    rw [if_neg (nI_ge (by omega) (by omega)), ald_nI (by omega) (by omega), Option.bind_some, hg i (by omega), bnd_eq, nI_add, nI_1]
    exact ⟨(nI (su i F + F i), nI (i + 1)), rfl, rfl, rfl⟩
theorem c_colWin (hn : n ≤ 6) (hg : ∀ j, j < 41 + 2 * n → gI σ 0 0 2 j = nI (F j)) : ∃ r, F0_addColumn_L89 k (nI (2 * n)) fuelK σ (nI (su (2 * n) F)) 0 = some r ∧ ∃ f : Nat → Int32, r.2 = sIf σ 0 0 1 f ∧ ∀ j, j < 41 → f j = gI σ 0 0 1 j + k * nI (su (2 * n + 1) (fun b => F (j + b))) := by
  refine loopG (L := fun m (w : Mem × Int32 × Int32) => F0_addColumn_L89 k (nI (2 * n)) m w.1 w.2.1 w.2.2) (N := 41)
    (Inv := fun i w => w.2.2 = nI i ∧ w.2.1 = nI (su (2 * n) (fun b => F (i + b))) ∧ ∃ f : Nat → Int32, w.1 = sIf σ 0 0 1 f ∧ (∀ j, j < i → f j = gI σ 0 0 1 j + k * nI (su (2 * n + 1) (fun b => F (j + b)))) ∧ (∀ j, i ≤ j → f j = gI σ 0 0 1 j)) ?_ 41 fuelK 0 (σ, nI (su (2 * n) F), 0) (by omega) (fuelK_lt (by omega)) ⟨rfl, by simp, gI σ 0 0 1, sIf_self.symm, fun j hj => absurd hj (by omega), fun _ _ => rfl⟩
  rintro m i ⟨τ1, u, w⟩ hi ⟨e1, e0, f, e2, e3, e4⟩
  simp only at e1 e2 e0
  subst e1; subst e2; subst e0
  simp only [F0_addColumn_L89.eq_2]
  by_cases e : i = 41
  · subst e
    exact .inl ⟨_, by rw [if_pos (show (41 : Int32) ≤ nI 41 from Int32.le_refl _)], f, rfl, e3⟩
  · refine .inr ⟨by omega, ?_⟩
    have col : ∀ f', gI (sIf σ 0 0 1 f') 0 0 2 = gI σ 0 0 2 := fun f' => rI_c (by decide)
    have nx : su (2 * n) (fun b => F (i + b)) + F (i + 2 * n) = su (2 * n + 1) (fun b => F (i + b)) := (su_s (2 * n) (fun b => F (i + b))).symm
    have nx2 : su (2 * n + 1) (fun b => F (i + b)) - F i = su (2 * n) (fun b => F (i + 1 + b)) := by
      rw [su_fst (fun b => F (i + b))]
      simp only [Nat.add_zero]
      rw [Nat.add_sub_cancel_left]
      exact su_congr _ (fun b _ => by rw [show i + (b + 1) = i + 1 + b by omega])
    have nx3 : F i ≤ su (2 * n + 1) (fun b => F (i + b)) := by
      rw [su_fst (fun b => F (i + b))]
      simp only [Nat.add_zero]
      omega
    rw [if_neg (show ¬ (41 : Int32) ≤ nI i from nI_ge (a := i) (b := 41) (by omega) (by omega)), col, nI_add, ald_nI (by omega) (by omega), Option.bind_some, hg _ (by omega), bnd_eq, nI_add, nx, rI_f, ald_nI (by omega) (by omega), Option.bind_some, chk_nI (by omega) (by omega), bnd_eq, cl_nI (by omega)]
    simp only [sIf_sIf, rI_f, col]
    rw [ald_nI (by omega) (by omega), Option.bind_some, hg i (by omega), bnd_eq, pk_sub nx3, nx2, nI_1]
    refine ⟨(_, _, _), rfl, rfl, rfl, _, rfl, fun j hj => ?_, fun j hj => ?_⟩
    · rw [upd_eq]
      by_cases e5 : j = i
      · rw [if_pos e5, e5, e4 i (by omega)]
      · rw [if_neg e5]; exact e3 j (by omega)
    · rw [upd_eq, if_neg (by omega)]; exact e4 j (by omega)
theorem c_addColumn (ht : TentT (gI σ 9 t) c) (o : TentOk c) (hn : n ≤ 6) {Y : Int32} (hY : F6_strikeY σ 0 t = some Y) :
    ∃ σ', F0_addColumn σ t 0 X (nI n) k = some ((), σ') ∧ FC [0] σ σ' ∧ ∀ j, j < 41 → gI σ' 0 0 1 j = gI σ 0 0 1 j + k * nI (su (2 * n + 1) (fun b => colF c X (Y - 20 - nI n) (j + b))) := by
  unfold F0_addColumn
  rw [hY, Option.bind_some, bnd_eq, bnd_eq, show (2 : Int32) * nI n = nI (2 * n) from pk_mul 2 n]
  obtain ⟨⟨u1, s1⟩, a1, g, a2, a3⟩ := c_colFill (X := X) (Y0 := Y - 20 - nI n) (k := k) ht o hn
  simp only at a2
  subst a2
  have hg : ∀ j, j < 41 + 2 * n → gI (sIf σ 0 0 2 g) 0 0 2 j = nI (colF c X (Y - 20 - nI n) j) := fun j hj => by rw [rI_f]; exact a3 j hj
  obtain ⟨r, b1, b2⟩ := c_colSum (k := k) hn hg
  subst b2
  obtain ⟨⟨u3, s3⟩, d1, f, d2, d3⟩ := c_colWin (k := k) hn hg
  simp only at d2
  subst d2
  rw [a1, bd_some, b1, Option.bind_some, d1, bd_some]
  refine ⟨_, rfl, FC.sI (FC.I (by decide)) (by decide), fun j hj => ?_⟩
  rw [rI_f, d3 j hj, rI_c (by decide)]
/-- the shot 0 stands aimed, reckoned, flying -/
def AimS (σ : Mem) (t : Nat) (z : ShN) : Prop := TentT (gI σ 9 t) z.1 ∧ gI σ 6 0 0 0 = nI z.2.1 ∧ gI σ 6 0 0 4 = z.2.2.2.2.2.1 ∧ gI σ 6 0 0 5 = z.2.2.2.2.2.2.1 ∧ gI σ 6 0 0 11 = sDrop (zTime z) ∧ gI σ 6 0 0 12 = sAside z.1 (zTime z) ∧ gI σ 6 0 0 13 = zOff z
theorem AimS.fc (h : AimS σ t z) (f : FC [0, 1] σ σ1) : AimS σ1 t z := by
  obtain ⟨h1, h2, h3, h4, h5, h6, h7⟩ := h
  unfold AimS
  rw [f.fI 6 0 0 (by decide)]
  exact ⟨h1.fc f (by decide), h2, h3, h4, h5, h6, h7⟩
def lz (z : ShN) : Nat := if zTurns z = 1 then 2 else 1
def colT (z : ShN) (x : Int32) (j : Nat) : Nat := lz z * su (zTurns z) (fun t => su (2 * zN z + 1) (fun b => colF z.1 (x + (zX z + trn t * zOff z)) (zY z - sDrop (zTime z) - 20 - nI (zN z)) (j + b)))
theorem c_addColumns (hz : ShOk z) (hf : zFate z = 0) (ha : AimS σ t z) (x sg : Int32) :
    ∃ σ', F0_addColumns σ t 0 x (nI (zN z)) sg = some ((), σ') ∧ FC [0] σ σ' ∧ ∀ j, j < 41 → gI σ' 0 0 1 j = gI σ 0 0 1 j + sg * nI (colT z x j) := by
  obtain ⟨ht, e0, e4, e5, e11, e12, e13⟩ := ha
  have ha : AimS σ t z := ⟨ht, e0, e4, e5, e11, e12, e13⟩
  have hn := (zN_le hz).1
  have o := hz.1
  have hs := hz.2.1
  have SX : ∀ σ', AimS σ' t z → ∀ turn, F6_strikeX σ' 0 t turn = some (zX z + turn * zOff z) := fun σ' h turn => by
    rw [c_strikeX h.1 o hs h.2.1, h.2.2.1, h.2.2.2.2.2.1, h.2.2.2.2.2.2]; rfl
  have SY : ∀ σ', AimS σ' t z → F6_strikeY σ' 0 t = some (zY z - sDrop (zTime z)) := fun σ' h => by
    rw [c_strikeY h.1 o hs h.2.1, h.2.2.2.1, h.2.2.2.2.1]; rfl
  unfold F0_addColumns
  rw [e13]
  by_cases ho : zOff z = 0
  · have hT := (off_0 hz hf).mp ho
    rw [if_pos ho, SX σ ha, Option.bind_some, show zX z + 0 * zOff z = zX z + trn 0 * zOff z by rw [ho]; rfl]
    obtain ⟨σ', a1, a2, a3⟩ := c_addColumn (σ := σ) (X := x + (zX z + trn 0 * zOff z)) (k := 2 * sg) ht o hn (SY σ ha)
    rw [a1, bd_some]
    refine ⟨_, rfl, a2, fun j hj => ?_⟩
    rw [a3 j hj]
    unfold colT lz
    rw [if_pos hT, hT, su_one1, ← pk_mul]
    rw [show nI 2 = (2 : Int32) from rfl]
    generalize nI (su (2 * zN z + 1) _) = v
    grind
  · have hT := zTurns_2 (fun e => ho ((off_0 hz hf).mpr e))
    rw [if_neg ho, SX σ ha, Option.bind_some]
    obtain ⟨σ', a1, a2, a3⟩ := c_addColumn (σ := σ) (X := x + (zX z + trn 0 * zOff z)) (k := sg) ht o hn (SY σ ha)
    have ha2 : AimS σ' t z := ha.fc (a2.m (by decide))
    rw [show zX z + 1 * zOff z = zX z + trn 0 * zOff z from rfl, a1, bd_some, SX σ' ha2, Option.bind_some]
    obtain ⟨σ2, b1, b2, b3⟩ := c_addColumn (σ := σ') (X := x + (zX z + trn 1 * zOff z)) (k := sg) ha2.1 o hn (SY σ' ha2)
    rw [show zX z + -1 * zOff z = zX z + trn 1 * zOff z from rfl, b1, bd_some]
    refine ⟨_, rfl, a2.t b2, fun j hj => ?_⟩
    rw [b3 j hj, a3 j hj]
    unfold colT lz
    rw [if_neg (by omega), hT, su_two, Nat.one_mul, ← nI_add]
    grind
end AIM
