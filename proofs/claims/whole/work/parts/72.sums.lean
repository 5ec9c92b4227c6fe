/-! PURE. The model's sums of ways. -/
section SUM
variable {σ : Mem} {c4 : Nat}
/-- only the rows ps of longs change -/
def FLs (ps : List Nat) (σ σ' : Mem) : Prop := σ'.1 = σ.1 ∧ σ'.2.2 = σ.2.2 ∧ ∀ p, p ∉ ps → gL σ' 12 0 p = gL σ 12 0 p
theorem FLs.z {ps : List Nat} : FLs ps σ σ := ⟨rfl, rfl, fun _ _ => rfl⟩
theorem FLs.t {ps : List Nat} {σ1 σ2 : Mem} (h : FLs ps σ σ1) (k : FLs ps σ1 σ2) : FLs ps σ σ2 := ⟨k.1.trans h.1, k.2.1.trans h.2.1, fun p hp => (k.2.2 p hp).trans (h.2.2 p hp)⟩
theorem FLs.m {ps qs : List Nat} {σ1 : Mem} (h : FLs ps σ σ1) (hs : ∀ p, p ∈ ps → p ∈ qs) : FLs qs σ σ1 := ⟨h.1, h.2.1, fun p hp => h.2.2 p (fun e => hp (hs p e))⟩
theorem FLs.s {ps : List Nat} {σ1 : Mem} {p : Nat} {f : Nat → Int64} (h : FLs ps σ σ1) (hp : p ∈ ps) : FLs ps σ (sLf σ1 12 0 p f) :=
  ⟨h.1, h.2.1, fun p' hp' => by rw [← h.2.2 p' hp']; exact rL_c (fun e => hp' (e ▸ hp))⟩
theorem FLs.gi {ps : List Nat} {σ1 : Mem} (h : FLs ps σ σ1) (a b c : Nat) : gI σ1 a b c = gI σ a b c := by simp only [gI, h.1]
theorem FLs.fm {ps : List Nat} {σ1 : Mem} (h : FLs ps σ σ1) (h0 : 0 ∉ ps) : FM [] [] ps σ σ1 :=
  ⟨fun k _ => by rw [h.gi], fun k _ => by rw [h.2.2 0 h0], by simp only [gB, h.2.1], fun p hp _ => ⟨h.gi 12 0 p, h.2.2 p hp⟩⟩
theorem m_start (hc : c4 = 9 ∨ c4 = 10) (x3 : Int32) : ∃ r, F12_sumUp_L22 x3 12 0 c4 101 fuelK σ 0 = some r ∧ FLs [c4] σ r.2 ∧ ∀ v, v < 101 → gL r.2 12 0 c4 v = lN (one 0 v) := by
  refine loopG (L := fun m (w : Mem × Int32) => F12_sumUp_L22 x3 12 0 c4 101 m w.1 w.2) (N := 101)
    (Inv := fun i w => w.2 = nI i ∧ FLs [c4] σ w.1 ∧ ∀ v, v < i → gL w.1 12 0 c4 v = lN (one 0 v)) ?_ 101 fuelK 0 (σ, 0) (by omega) (fuelK_lt (by omega)) ⟨rfl, FLs.z, fun v hv => absurd hv (by omega)⟩
  rintro m i ⟨τ, w⟩ hi ⟨e1, e2, e3⟩
  simp only at e1 e2 e3
  subst e1
  simp only [F12_sumUp_L22.eq_2]
  by_cases e : i = 101
  · subst e
    exact .inl ⟨_, by rw [if_pos (by decide)], e2, e3⟩
  · refine .inr ⟨by omega, ?_⟩
    have fin : ∀ x : Int64, x = lN (one 0 i) → ∃ s' : Mem × Int32, F12_sumUp_L22 x3 12 0 c4 101 m (sL τ 12 0 c4 i x) (nI (i + 1)) = F12_sumUp_L22 x3 12 0 c4 101 m s'.1 s'.2 ∧ s'.2 = nI (i + 1) ∧ FLs [c4] σ s'.1 ∧ ∀ v, v < i + 1 → gL s'.1 12 0 c4 v = lN (one 0 v) := by
      intro x hx
      refine ⟨(sL τ 12 0 c4 i x, nI (i + 1)), rfl, rfl, e2.s (List.mem_singleton.mpr rfl), fun v hv => ?_⟩
      simp only [rL_f, updL_eq]
      by_cases e4 : v = i
      · rw [if_pos e4, e4, hx]
      · rw [if_neg e4]; exact e3 v (by omega)
    rw [if_neg (show ¬ (101 : Int32) ≤ nI i from nI_ge (a := i) (b := 101) (by omega) (by omega)), chk_nI (by omega) (by omega), chk_nI (by omega) (by omega), bnd_eq, bnd_eq, cl_nI (by omega), nI_1]
    by_cases e0 : i = 0
    · rw [if_pos (by rw [e0]; rfl)]
      exact fin _ (by rw [e0]; rfl)
    · rw [if_neg (nI_ne0 (by omega) (by omega))]
      exact fin _ (by rw [one_n e0]; rfl)
theorem m_clear (x3 x5 : Int32) : ∃ r, F12_sumUp_L62 x3 12 0 c4 101 x5 fuelK σ 0 = some r ∧ FLs [11] σ r.2 ∧ ∀ v, v < 101 → gL r.2 12 0 11 v = lN 0 := by
  refine loopG (L := fun m (w : Mem × Int32) => F12_sumUp_L62 x3 12 0 c4 101 x5 m w.1 w.2) (N := 101)
    (Inv := fun i w => w.2 = nI i ∧ FLs [11] σ w.1 ∧ ∀ v, v < i → gL w.1 12 0 11 v = lN 0) ?_ 101 fuelK 0 (σ, 0) (by omega) (fuelK_lt (by omega)) ⟨rfl, FLs.z, fun v hv => absurd hv (by omega)⟩
  rintro m i ⟨τ, w⟩ hi ⟨e1, e2, e3⟩
  simp only at e1 e2 e3
  subst e1
  simp only [F12_sumUp_L62.eq_2]
  by_cases e : i = 101
  · subst e
    exact .inl ⟨_, by rw [if_pos (by decide)], e2, e3⟩
  · refine .inr ⟨by omega, ?_⟩
    rw [if_neg (show ¬ (101 : Int32) ≤ nI i from nI_ge (a := i) (b := 101) (by omega) (by omega)), chk_nI (by omega) (by omega), bnd_eq, cl_nI (by omega), nI_1]
    refine ⟨(sL τ 12 0 11 i 0, nI (i + 1)), rfl, rfl, e2.s (by decide), fun v hv => ?_⟩
    simp only [rL_f, updL_eq]
    by_cases e4 : v = i
    · rw [if_pos e4]; rfl
    · rw [if_neg e4]; exact e3 v (by omega)
/-- what one row of points adds -/
theorem m_scat1 (hc : c4 = 9 ∨ c4 = 10) {f s T : Nat → Nat} {v : Nat} (hv : v ≤ 80) (x3 x5 : Int32) (h1 : ∀ i, i ≤ 20 → gI σ 12 0 8 i = nI (f i) ∧ f i < 2147483648) (h2 : gL σ 12 0 c4 v = lN (s v)) (h3 : ∀ u, u < 101 → gL σ 12 0 11 u = lN (T u)) :
    ∃ r, F12_sumUp_L99 x3 12 0 c4 101 x5 (nI v) fuelK σ 0 = some r ∧ FLs [11] σ r.2 ∧ ∀ u, u < 101 → gL r.2 12 0 11 u = lN (T u + su 21 (fun w => if v + w = u then s v * f w else 0)) := by
  refine loopG (L := fun m (w : Mem × Int32) => F12_sumUp_L99 x3 12 0 c4 101 x5 (nI v) m w.1 w.2) (N := 21)
    (Inv := fun i w => w.2 = nI i ∧ FLs [11] σ w.1 ∧ ∀ u, u < 101 → gL w.1 12 0 11 u = lN (T u + su i (fun w => if v + w = u then s v * f w else 0))) ?_ 21 fuelK 0 (σ, 0) (by omega) (fuelK_lt (by omega)) ⟨rfl, FLs.z, h3⟩
  rintro m i ⟨τ, w⟩ hi ⟨e1, e2, e3⟩
  simp only at e1 e2 e3
  subst e1
  simp only [F12_sumUp_L99.eq_2]
  by_cases e : i = 21
  · subst e
    exact .inl ⟨_, by rw [if_pos (by decide)], e2, e3⟩
  · refine .inr ⟨by omega, ?_⟩
    have hw : gL τ 12 0 c4 v = lN (s v) := by rw [e2.2.2 c4 (by rcases hc with e | e <;> rw [e] <;> decide)]; exact h2
    rw [if_neg (show ¬ (21 : Int32) ≤ nI i from nI_ge (a := i) (b := 21) (by omega) (by omega)), nI_add, ald_nI (by omega) (by omega), Option.bind_some, ald_nI (by omega) (by omega), Option.bind_some, ald_nI (by omega) (by omega), Option.bind_some, chk_nI (by omega) (by omega), bnd_eq, cl_nI (by omega), nI_1, e3 _ (by omega), hw, e2.gi, (h1 i (by omega)).1, nI_l (h1 i (by omega)).2, lN_mul, lN_add]
    refine ⟨(sL τ 12 0 11 (v + i) (lN (T (v + i) + su i (fun w => if v + w = v + i then s v * f w else 0) + s v * f i)), nI (i + 1)), rfl, rfl, e2.s (by decide), fun u hu => ?_⟩
    simp only [rL_f, updL_eq]
    by_cases e4 : u = v + i
    · subst e4
      rw [if_pos rfl, su_s, if_pos rfl, Nat.add_assoc]
    · rw [if_neg e4, e3 u hu, su_s, if_neg (fun e5 => e4 e5.symm)]; rfl
theorem m_scat (hc : c4 = 9 ∨ c4 = 10) {f s : Nat → Nat} {k : Nat} (hk : k ≤ 4) (x3 : Int32) (h1 : ∀ i, i ≤ 20 → gI σ 12 0 8 i = nI (f i) ∧ f i < 2147483648) (h2 : ∀ v, v < 101 → gL σ 12 0 c4 v = lN (s v)) (h3 : ∀ u, u < 101 → gL σ 12 0 11 u = lN 0) :
    ∃ r, F12_sumUp_L86 x3 12 0 c4 101 (nI k) fuelK σ 0 = some r ∧ FLs [11] σ r.2 ∧ ∀ u, u < 101 → gL r.2 12 0 11 u = lN (su (20 * k + 1) (fun v => su 21 (fun w => if v + w = u then s v * f w else 0))) := by
  refine loopG (L := fun m (w : Mem × Int32) => F12_sumUp_L86 x3 12 0 c4 101 (nI k) m w.1 w.2) (N := 20 * k + 1)
    (Inv := fun i w => w.2 = nI i ∧ FLs [11] σ w.1 ∧ ∀ u, u < 101 → gL w.1 12 0 11 u = lN (su i (fun v => su 21 (fun w => if v + w = u then s v * f w else 0)))) ?_ (20 * k + 1) fuelK 0 (σ, 0) (by omega) (fuelK_lt (by omega)) ⟨rfl, FLs.z, h3⟩
  rintro m i ⟨τ, w⟩ hi ⟨e1, e2, e3⟩
  simp only at e1 e2 e3
  subst e1
  simp only [F12_sumUp_L86.eq_2]
  have e20 : (20 : Int32) * nI k = nI (20 * k) := by rw [show (20 : Int32) = nI 20 from rfl, pk_mul]
  rw [e20]
  by_cases e : i = 20 * k + 1
  · subst e
    exact .inl ⟨_, by rw [if_pos (nI_lt (by omega) (by omega))], e2, e3⟩
  · refine .inr ⟨by omega, ?_⟩
    obtain ⟨r, r1, r2, r3⟩ := m_scat1 (σ := τ) (v := i) (T := fun u => su i (fun v => su 21 (fun w => if v + w = u then s v * f w else 0))) hc (by omega) x3 (nI k) (fun j hj => by rw [e2.gi]; exact h1 j hj) (by rw [e2.2.2 c4 (by rcases hc with e | e <;> rw [e] <;> decide)]; exact h2 i (by omega)) e3
    rw [if_neg (nI_nlt (by omega) (by omega)), r1, nI_1]
    exact ⟨(r.2, nI (i + 1)), rfl, rfl, e2.t r2, fun u hu => by rw [r3 u hu]; exact congrArg lN (su_s i _).symm⟩
theorem m_copy (hc : c4 = 9 ∨ c4 = 10) {T : Nat → Nat} (x3 x5 : Int32) (h3 : ∀ u, u < 101 → gL σ 12 0 11 u = lN (T u)) :
    ∃ r, F12_sumUp_L148 x3 12 0 c4 101 x5 fuelK σ 0 = some r ∧ FLs [c4] σ r.2 ∧ ∀ u, u < 101 → gL r.2 12 0 c4 u = lN (T u) := by
  refine loopG (L := fun m (w : Mem × Int32) => F12_sumUp_L148 x3 12 0 c4 101 x5 m w.1 w.2) (N := 101)
    (Inv := fun i w => w.2 = nI i ∧ FLs [c4] σ w.1 ∧ ∀ u, u < i → gL w.1 12 0 c4 u = lN (T u)) ?_ 101 fuelK 0 (σ, 0) (by omega) (fuelK_lt (by omega)) ⟨rfl, FLs.z, fun v hv => absurd hv (by omega)⟩
  rintro m i ⟨τ, w⟩ hi ⟨e1, e2, e3⟩
  simp only at e1 e2 e3
  subst e1
  simp only [F12_sumUp_L148.eq_2]
  by_cases e : i = 101
  · subst e
    exact .inl ⟨_, by rw [if_pos (by decide)], e2, e3⟩
  · refine .inr ⟨by omega, ?_⟩
    have h11 : gL τ 12 0 11 i = lN (T i) := by rw [e2.2.2 11 (by rcases hc with e | e <;> rw [e] <;> decide)]; exact h3 i (by omega)
    rw [if_neg (show ¬ (101 : Int32) ≤ nI i from nI_ge (a := i) (b := 101) (by omega) (by omega)), ald_nI (by omega) (by omega), Option.bind_some, chk_nI (by omega) (by omega), bnd_eq, cl_nI (by omega), nI_1, h11]
    refine ⟨(sL τ 12 0 c4 i (lN (T i)), nI (i + 1)), rfl, rfl, e2.s (List.mem_singleton.mpr rfl), fun v hv => ?_⟩
    simp only [rL_f, updL_eq]
    by_cases e4 : v = i
    · rw [if_pos e4, e4]
    · rw [if_neg e4]; exact e3 v (by omega)
theorem m_sumUp {s p shots : Nat} (hc : c4 = 9 ∨ c4 = 10) (hsh : shots ≤ 5) (hz : ShOk (gI σ 12 0 5, s, p, gI σ 12 0 5 (53 + s), 2, 0, 0, 0)) :
    ∃ σ', F12_sumUp σ (nI s) (nI p) (nI shots) 12 0 c4 101 = some ((), σ') ∧ FM [28, 29, 30, 31, 33, 34] [] [8, 11, c4] σ σ' ∧
      (∀ v, v < 101 → gL σ' 12 0 c4 v = lN (wy (oCnt (gI σ 12 0 5, s, p, gI σ 12 0 5 (53 + s), 2, 0, 0, 0)) shots v)) ∧ gI σ' 12 0 0 33 = nI (oAll (gI σ 12 0 5, s, p, gI σ 12 0 5 (53 + s), 2, 0, 0, 0)) := by
  have h6 : nat (gI σ 12 0 5 6) ≤ 6 := ok_n6 hz.1
  have hs : s < nat (gI σ 12 0 5 6) := hz.2.1
  have hA := oAll_le hz
  obtain ⟨σ1, k1, k2, k3, k4, k5⟩ := m_counts hz
  unfold F12_sumUp
  simp (disch := omega) only [ix_9, ix_15, ix_21, ix_29, ix_37, ix_45, ix_53, ix_59, ix_65, ix_71, ix_77, ix_83, ix_325, al_0, al_1, al_2, al_3, al_4, al_5, al_6, al_7, al_8, ald_nI, Option.bind_some, bnd_eq, bd_some]
  rw [k1, bd_some]
  obtain ⟨⟨u, σ2⟩, a1, a2, a3⟩ := m_start (σ := σ1) hc (nI shots)
  rw [a1, bd_some]
  simp only at a2 a3
  have h1 : ∀ i, i ≤ 20 → gI σ2 12 0 8 i = nI (oCnt (gI σ 12 0 5, s, p, gI σ 12 0 5 (53 + s), 2, 0, 0, 0) i) ∧ oCnt (gI σ 12 0 5, s, p, gI σ 12 0 5 (53 + s), 2, 0, 0, 0) i < 2147483648 := fun i hi => ⟨by rw [a2.gi]; exact k3 i (by omega), by have := oCnt_le hz i; omega⟩
  generalize oCnt (gI σ 12 0 5, s, p, gI σ 12 0 5 (53 + s), 2, 0, 0, 0) = f at *
  have key : ∃ r, F12_sumUp_L53 (nI shots) 12 0 c4 101 fuelK σ2 0 = some r ∧ FLs [11, c4] σ2 r.2 ∧ ∀ v, v < 101 → gL r.2 12 0 c4 v = lN (wy f shots v) := by
    refine loopG (L := fun m (w : Mem × Int32) => F12_sumUp_L53 (nI shots) 12 0 c4 101 m w.1 w.2) (N := shots)
      (Inv := fun i w => w.2 = nI i ∧ FLs [11, c4] σ2 w.1 ∧ ∀ v, v < 101 → gL w.1 12 0 c4 v = lN (wy f i v)) ?_ shots fuelK 0 (σ2, 0) (by omega) (fuelK_lt (by omega)) ⟨rfl, FLs.z, a3⟩
    rintro m i ⟨τ, w⟩ hi ⟨e1, e2, e3⟩
    simp only at e1 e2 e3
    subst e1
    simp only [F12_sumUp_L53.eq_2]
    by_cases e : i = shots
    · subst e
      exact .inl ⟨_, by rw [if_pos (Int32.le_refl _)], e2, e3⟩
    · refine .inr ⟨by omega, ?_⟩
      have nc : c4 ∉ [11] := by rcases hc with e | e <;> rw [e] <;> decide
      obtain ⟨r1, b1, b2, b3⟩ := m_clear (σ := τ) (c4 := c4) (nI shots) (nI i)
      obtain ⟨r2, b4, b5, b6⟩ := m_scat (σ := r1.2) (k := i) (s := wy f i) (f := f) hc (by omega) (nI shots) (fun j hj => by rw [b2.gi, e2.gi]; exact h1 j hj) (fun v hv => by rw [b2.2.2 c4 nc]; exact e3 v hv) b3
      obtain ⟨r3, b7, b8, b9⟩ := m_copy (σ := r2.2) hc (nI shots) (nI i) b6
      rw [if_neg (nI_ge (by omega) (by omega)), b1, bd, Option.bind_some, b4, bd, Option.bind_some, b7, bd, Option.bind_some, nI_1]
      refine ⟨(r3.2, nI (i + 1)), rfl, rfl, ((e2.t (b2.m (by simp))).t (b5.m (by simp))).t (b8.m (by simp)), fun v hv => ?_⟩
      rw [b9 v hv, scat_eq (fun v hv => wy_hi i v (by omega))]; rfl
  obtain ⟨⟨u2, σ3⟩, c1, c2, c3⟩ := key
  simp only at c2 c3
  have n0 : 0 ∉ [11, c4] := by rcases hc with e | e <;> rw [e] <;> decide
  have n0' : 0 ∉ [c4] := by rcases hc with e | e <;> rw [e] <;> decide
  refine ⟨σ3, by rw [c1, bd_some], (k2.m (fun _ h => h) (fun _ h => h) (by simp)).t (((a2.fm n0').m (by simp) (by simp) (by simp)).t ((c2.fm n0).m (by simp) (by simp) (by simp))), c3, ?_⟩
  rw [c2.gi, a2.gi, k4]
end SUM
