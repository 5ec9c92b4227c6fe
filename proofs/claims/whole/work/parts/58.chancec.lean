/-! PURE. The class's chances. -/
theorem sIf_self {σ : Mem} {a b c : Nat} : sIf σ a b c (gI σ a b c) = σ := by
  refine Prod.ext ?_ rfl
  funext a' b' c'
  simp only [sIf]
  split
  · rename_i h; obtain ⟨rfl, rfl, rfl⟩ := h; rfl
  · rfl
theorem sIf_sIf {σ : Mem} {a b c : Nat} {f g : Nat → Int32} : sIf (sIf σ a b c f) a b c g = sIf σ a b c g := by
  refine Prod.ext ?_ rfl
  funext a' b' c'
  simp only [sIf]
  split <;> rfl
theorem sLf_self {σ : Mem} {a b c : Nat} : sLf σ a b c (gL σ a b c) = σ := by
  refine Prod.ext rfl (Prod.ext ?_ rfl)
  funext a' b' c'
  simp only [sLf]
  split
  · rename_i h; obtain ⟨rfl, rfl, rfl⟩ := h; rfl
  · rfl
theorem sLf_sLf {σ : Mem} {a b c : Nat} {f g : Nat → Int64} : sLf (sLf σ a b c f) a b c g = sLf σ a b c g := by
  refine Prod.ext rfl (Prod.ext ?_ rfl)
  funext a' b' c'
  simp only [sLf]
  split <;> rfl
theorem fillI_eq {σ : Mem} {a b c N : Nat} {v : Int32} (hN : N < 1000) : ∃ f : Nat → Int32, F20_fillI σ a b c N v = some ((), sIf σ a b c f) ∧ ∀ k, k < N → f k = v := by
  have h : ∃ r, F20_fillI_L5 a b c N v (nI N) fuelK σ 0 = some r ∧ ∃ f : Nat → Int32, r.2 = sIf σ a b c f ∧ ∀ k, k < N → f k = v := by
    refine loopG (L := fun m (w : Mem × Int32) => F20_fillI_L5 a b c N v (nI N) m w.1 w.2) (N := N)
      (Inv := fun i w => w.2 = nI i ∧ ∃ f : Nat → Int32, w.1 = sIf σ a b c f ∧ ∀ k, k < i → f k = v) ?_ N fuelK 0 (σ, 0) (by omega) (fuelK_lt (by omega)) ⟨rfl, gI σ a b c, sIf_self.symm, fun k hk => absurd hk (by omega)⟩
    rintro m i ⟨σ1, w⟩ hi ⟨e1, f, e2, e3⟩
    simp only at e1 e2
    subst e1; subst e2
    simp only [F20_fillI_L5.eq_2]
    by_cases e : i = N
    · subst e
      exact .inl ⟨_, by rw [if_pos (Int32.le_refl _)], f, rfl, e3⟩
    · refine .inr ⟨by omega, ?_⟩
      rw [if_neg (nI_ge (by omega) (by omega)), chk_nI (by omega) (by omega), bnd_eq, cl_nI (by omega), nI_1]
      refine ⟨(sIf σ a b c (upd f i v), nI (i + 1)), ?_, rfl, upd f i v, rfl, fun k hk => ?_⟩
      · simp only [sIf_sIf, rI_f]
      · rw [upd_eq]; split
        · rfl
        · exact e3 k (by omega)
  obtain ⟨⟨u, σ1⟩, h1, f, h2, h3⟩ := h
  simp only at h2
  subst h2
  exact ⟨f, by rw [F20_fillI, bnd_eq, show Int32.ofNat N = nI N from rfl, h1, bd_some], h3⟩
theorem fillL_eq {σ : Mem} {a b c N : Nat} {v : Int64} (hN : N < 1000) : ∃ f : Nat → Int64, F20_fillL σ a b c N v = some ((), sLf σ a b c f) ∧ ∀ k, k < N → f k = v := by
  have h : ∃ r, F20_fillL_L6 a b c N v (nI N) fuelK σ 0 = some r ∧ ∃ f : Nat → Int64, r.2 = sLf σ a b c f ∧ ∀ k, k < N → f k = v := by
    refine loopG (L := fun m (w : Mem × Int32) => F20_fillL_L6 a b c N v (nI N) m w.1 w.2) (N := N)
      (Inv := fun i w => w.2 = nI i ∧ ∃ f : Nat → Int64, w.1 = sLf σ a b c f ∧ ∀ k, k < i → f k = v) ?_ N fuelK 0 (σ, 0) (by omega) (fuelK_lt (by omega)) ⟨rfl, gL σ a b c, sLf_self.symm, fun k hk => absurd hk (by omega)⟩
    rintro m i ⟨σ1, w⟩ hi ⟨e1, f, e2, e3⟩
    simp only at e1 e2
    subst e1; subst e2
    simp only [F20_fillL_L6.eq_2]
    by_cases e : i = N
    · subst e
      exact .inl ⟨_, by rw [if_pos (Int32.le_refl _)], f, rfl, e3⟩
    · refine .inr ⟨by omega, ?_⟩
      rw [if_neg (nI_ge (by omega) (by omega)), chk_nI (by omega) (by omega), bnd_eq, cl_nI (by omega), nI_1]
      refine ⟨(sLf σ a b c (vp_updL f i v), nI (i + 1)), ?_, rfl, vp_updL f i v, rfl, fun k hk => ?_⟩
      · simp only [sLf_sLf, rL_f]
      · rw [updL_eq]; split
        · rfl
        · exact e3 k (by omega)
  obtain ⟨⟨u, σ1⟩, h1, f, h2, h3⟩ := h
  simp only at h2
  subst h2
  exact ⟨f, by rw [F20_fillL, bnd_eq, show Int32.ofNat N = nI N from rfl, h1, bd_some], h3⟩
/-- only the counts of the chances q change -/
def FQ (q : Nat) (σ σ' : Mem) : Prop := FC [2] σ σ' ∧ (∀ q' k, q' ≠ q → gI σ' 2 q' k = gI σ 2 q' k) ∧ gI σ' 2 q 0 = gI σ 2 q 0 ∧ gL σ' 2 = gL σ 2
theorem FQ.z {q : Nat} {σ : Mem} : FQ q σ σ := ⟨FC.z, fun _ _ _ => rfl, rfl, rfl⟩
theorem FQ.sC {q : Nat} {σ σ1 : Mem} {f : Nat → Int32} (h : FQ q σ σ1) : FQ q σ (sIf σ1 2 q 1 f) := by
  refine ⟨FC.sI h.1 (by decide), fun q' k hq => ?_, ?_, h.2.2.2⟩
  · rw [← h.2.1 q' k hq]; simp [gI_sI, hq]
  · rw [← h.2.2.1]; exact rI_c (by decide)
def AccC (q : Nat) (σ0 σ : Mem) (O : Nat → Nat) : Prop := FQ q σ0 σ ∧ ∀ v, v < 21 → gI σ 2 q 1 v = nI (O v)
theorem AccC.cg {q : Nat} {σ0 σ : Mem} {O O' : Nat → Nat} (h : AccC q σ0 σ O) (h1 : ∀ v, O v = O' v) : AccC q σ0 σ O' := by
  have : O = O' := funext h1
  subst this; exact h
theorem TentT.fc {σ σ' : Mem} {t : Nat} {c : Nat → Int32} {S : List Nat} (h : TentT (gI σ 9 t) c) (f : FC S σ σ') (h9 : 9 ∉ S) : TentT (gI σ' 9 t) c := by
  have : gI σ' 9 t = gI σ 9 t := funext fun k => f.fI 9 t k h9
  rw [this]; exact h
section CC
variable {σ0 σ : Mem} {t q n : Nat} {c : Nat → Int32} {O : Nat → Nat} {X Y : Int32}
theorem hi_lt {X : Int32} {a n : Nat} (hX : -3000 ≤ X.toInt ∧ X.toInt ≤ 3000) (hn : n ≤ 6) (ha : a ≤ 2 * n + 1) : X + nI n < X - nI n + nI a ↔ a = 2 * n + 1 := by
  have e1 := nI_int (n := n) (by omega)
  have e2 := nI_int (n := a) (by omega)
  have a1 : (X + nI n).toInt = X.toInt + n := by rw [i32_add] <;> rw [e1] <;> omega
  have a2 : (X - nI n).toInt = X.toInt - n := by rw [i32_sub] <;> rw [e1] <;> omega
  have a3 : (X - nI n + nI a).toInt = X.toInt - n + a := by rw [i32_add] <;> rw [a2, e2] <;> omega
  rw [i32_lt, a1, a3]; omega
theorem add_next (X : Int32) (a : Nat) : X + nI a + 1 = X + nI (a + 1) := by rw [← nI_1]; grind
def ptc (c : Nat → Int32) (X Y : Int32) (n a b : Nat) : Nat := nat (sPts c (X - nI n + nI a) (Y - nI n + nI b))
theorem ptc_nI (o : TentOk c) (a b : Nat) : sPts c (X - nI n + nI a) (Y - nI n + nI b) = nI (ptc c X Y n a b) ∧ ptc c X Y n a b ≤ 20 := by
  have h := sPts_int o (X - nI n + nI a) (Y - nI n + nI b)
  have := nat_i (sPts c (X - nI n + nI a) (Y - nI n + nI b))
  exact ⟨nI_of32 (i32_le.mpr h.1), by unfold ptc; omega⟩
theorem c_bL (ht : TentT (gI σ0 9 t) c) (o : TentOk c) (hn : n ≤ 6) (hY : -3000 ≤ Y.toInt ∧ Y.toInt ≤ 3000) (m0 : Nat) (h : AccC q σ0 σ O) (a : Nat) :
    ∃ r, F2_count_L21 q t X Y (nI n) (nI m0) (X - nI n + nI a) fuelK σ (Y - nI n) = some r ∧ AccC q σ0 r.2 (fun v => O v + su (2 * n + 1) (fun b => m0 * one (ptc c X Y n a b) v)) := by
  refine loopG (L := fun m (w : Mem × Int32) => F2_count_L21 q t X Y (nI n) (nI m0) (X - nI n + nI a) m w.1 w.2) (N := 2 * n + 1)
    (Inv := fun i w => w.2 = Y - nI n + nI i ∧ AccC q σ0 w.1 (fun v => O v + su i (fun b => m0 * one (ptc c X Y n a b) v))) ?_ (2 * n + 1) fuelK 0 (σ, Y - nI n) (by omega) (fuelK_lt (by omega)) ⟨by rw [nI_z]; grind, h⟩
  rintro m i ⟨σ1, w⟩ hi ⟨e1, e2⟩
  simp only at e1 e2
  subst e1
  simp only [F2_count_L21.eq_2]
  by_cases e : i = 2 * n + 1
  · subst e
    exact .inl ⟨_, by rw [if_pos ((hi_lt hY hn (by omega)).mpr rfl)], e2⟩
  · refine .inr ⟨by omega, ?_⟩
    obtain ⟨p1, p2⟩ := ptc_nI (n := n) (X := X) (Y := Y) o a i
    rw [if_neg (fun e3 => e ((hi_lt hY hn (by omega)).mp e3)), c_pts (ht.fc e2.1.1 (by decide)) o, Option.bind_some, p1, ald_nI (by omega) (by omega), Option.bind_some, chk_nI (by omega) (by omega), bnd_eq, cl_nI (by omega), add_next, e2.2 _ (by omega), nI_add]
    refine ⟨(sIf σ1 2 q 1 (upd (gI σ1 2 q 1) (ptc c X Y n a i) _), _), rfl, rfl, FQ.sC e2.1, fun v hv => ?_⟩
    simp only [rI_f, upd_eq, su_s]
    by_cases e4 : v = ptc c X Y n a i
    · rw [if_pos e4, e4]; simp only [one_s]; exact congrArg nI (by omega)
    · rw [if_neg e4, e2.2 v hv]
      simp only [one_n e4]; exact congrArg nI (by omega)
theorem c_aL (ht : TentT (gI σ0 9 t) c) (o : TentOk c) (hn : n ≤ 6) (hX : -3000 ≤ X.toInt ∧ X.toInt ≤ 3000) (hY : -3000 ≤ Y.toInt ∧ Y.toInt ≤ 3000) (m0 : Nat) (h : AccC q σ0 σ O) :
    ∃ σ', F2_count σ q t X Y (nI n) (nI m0) = some ((), σ') ∧ AccC q σ0 σ' (fun v => O v + m0 * su (2 * n + 1) (fun a => su (2 * n + 1) (fun b => one (ptc c X Y n a b) v))) := by
  have key : ∃ r, F2_count_L6 q t X Y (nI n) (nI m0) fuelK σ (X - nI n) = some r ∧ AccC q σ0 r.2 (fun v => O v + su (2 * n + 1) (fun a => su (2 * n + 1) (fun b => m0 * one (ptc c X Y n a b) v))) := by
    refine loopG (L := fun m (w : Mem × Int32) => F2_count_L6 q t X Y (nI n) (nI m0) m w.1 w.2) (N := 2 * n + 1)
      (Inv := fun i w => w.2 = X - nI n + nI i ∧ AccC q σ0 w.1 (fun v => O v + su i (fun a => su (2 * n + 1) (fun b => m0 * one (ptc c X Y n a b) v)))) ?_ (2 * n + 1) fuelK 0 (σ, X - nI n) (by omega) (fuelK_lt (by omega)) ⟨by rw [nI_z]; grind, h⟩
    rintro m i ⟨σ1, w⟩ hi ⟨e1, e2⟩
    simp only at e1 e2
    subst e1
    simp only [F2_count_L6.eq_2]
    by_cases e : i = 2 * n + 1
    · subst e
      exact .inl ⟨_, by rw [if_pos ((hi_lt hX hn (by omega)).mpr rfl)], e2⟩
    · refine .inr ⟨by omega, ?_⟩
      obtain ⟨r, k1, k2⟩ := c_bL (X := X) ht o hn hY m0 e2 i
      rw [if_neg (fun e3 => e ((hi_lt hX hn (by omega)).mp e3)), bnd_eq, k1]
      exact ⟨(r.2, X - nI n + nI (i + 1)), by rw [← add_next]; rfl, rfl, k2.cg (fun v => by simp only [su_s]; omega)⟩
  obtain ⟨⟨u, σ'⟩, k1, k2⟩ := key
  refine ⟨σ', by rw [F2_count, bnd_eq, k1, bd_some], k2.cg (fun v => ?_)⟩
  congr 1
  simp only [su_mul]
end CC
/-- the class's shot 0 is made with the numbers z -/
def ShotZ (σ : Mem) (z : ShN) : Prop := gI σ 6 0 0 0 = nI z.2.1 ∧ gI σ 6 0 0 1 = nI z.2.2.1 ∧ gI σ 6 0 0 2 = z.2.2.2.1 ∧ gI σ 6 0 0 3 = z.2.2.2.2.1 ∧ gI σ 6 0 0 4 = z.2.2.2.2.2.1 ∧ gI σ 6 0 0 5 = z.2.2.2.2.2.2.1 ∧ gI σ 6 0 0 6 = z.2.2.2.2.2.2.2 ∧ gI σ 6 0 0 7 = z.1 0
def AimOk (z : ShN) : Prop := (-60 ≤ z.2.2.2.2.2.1.toInt ∧ z.2.2.2.2.2.1.toInt ≤ 60) ∧ (-60 ≤ z.2.2.2.2.2.2.1.toInt ∧ z.2.2.2.2.2.2.1.toInt ≤ 60)
theorem c_reckon {σ : Mem} {t t0 p : Nat} {c : Nat → Int32} {puff spit : Int32} (ht : TentT (gI σ 9 t) c) (o : TentOk c) (hp : p < nat (c 5)) (hs : 0 ≤ spit.toInt ∧ spit.toInt ≤ 20) (hz : ShotIs σ t0 p puff spit (c 0)) :
    ∃ σ', F6_reckon σ t0 t = some ((), σ') ∧ FC [6] σ σ' ∧ (∀ k, k < 8 → gI σ' 6 t0 0 k = gI σ 6 t0 0 k) ∧ Reck σ' t0 c p puff spit := by
  have h5 := ok_n5 o
  obtain ⟨e1, e2, e6, e7⟩ := hz
  have wet : gI σ 9 t 7 p = c (45 + p) := (ht.2.2.1 p hp).2.2.2
  have wei : gI σ 9 t 5 p = c (29 + p) := (ht.2.2.1 p hp).2.1
  unfold F6_reckon
  rw [e1, c_fit ht o hp, Option.bind_some]
  by_cases h0 : 0 ≤ sFit c p
  · have hd := den_int o hp (i32_le.mp h0) hs
    have hd0 : (0 : Int32) < c (29 + p) + sFit c p + spit := i32_lt.mpr (by show (0 : Int) < _; omega)
    have hdn : ¬ (c (29 + p) + sFit c p + spit = 0) := fun e => by rw [e] at hd; have : (0 : Int32).toInt = 0 := rfl; omega
    have key : ∀ w : Bool, w = decide (c (45 + p) = 1) → ∃ σ', F6_reckon_p37 σ t0 t (sFit c p) w = some ((), σ') ∧ FC [6] σ σ' ∧ (∀ k, k < 8 → gI σ' 6 t0 0 k = gI σ 6 t0 0 k) ∧ Reck σ' t0 c p puff spit := by
      intro w hw
      have hpc : F6_paceOf σ t0 (c (29 + p) + sFit c p + spit) w = some (sPace c p puff spit) := by
        unfold F6_paceOf
        rw [if_pos hd0, if_neg hdn, bnd_eq, e2, e7, hw]
        unfold sPace
        by_cases h1 : c (45 + p) = 1
        · simp [h1]
        · simp [h1]
      unfold F6_reckon_p37
      rw [e1, ald_nI (by omega) (by omega), Option.bind_some, wei, e6, hpc, Option.bind_some, bnd_eq]
      have fs : FC [6] σ (sI σ 6 t0 0 9 (sPace c p puff spit)) := FC.sI FC.z (by decide)
      have f6 : gI (sI σ 6 t0 0 9 (sPace c p puff spit)) 6 t0 0 6 = spit := by rw [rI_n (by decide), e6]
      have f1 : gI (sI σ 6 t0 0 9 (sPace c p puff spit)) 6 t0 0 1 = nI p := by rw [rI_n (by decide), e1]
      have f9 : gI (sI σ 6 t0 0 9 (sPace c p puff spit)) 6 t0 0 9 = sPace c p puff spit := by rw [rI_s]
      have fk : ∀ k, k < 8 → gI (sI σ 6 t0 0 9 (sPace c p puff spit)) 6 t0 0 k = gI σ 6 t0 0 k := fun k hk => by rw [rI_n (by omega)]
      generalize sI σ 6 t0 0 9 (sPace c p puff spit) = s5 at *
      have stick : ∀ (h : sFate c p puff spit = 2), ∃ σ', (bnd (sI s5 6 t0 0 8 2) fun s_6 => some ((), s_6)) = some ((), σ') ∧ FC [6] σ σ' ∧ (∀ k, k < 8 → gI σ' 6 t0 0 k = gI σ 6 t0 0 k) ∧ Reck σ' t0 c p puff spit := by
        intro h
        refine ⟨_, rfl, FC.sI fs (by decide), fun k hk => by rw [rI_n (by omega), fk k hk], ?_, fun h2 => ?_⟩
        · rw [rI_s, h]
        · rw [h] at h2; exact absurd h2 (by decide)
      have fly : spit < 8 → (c (45 + p) = 1 → spit < 3) → ∃ σ', F6_reckon_p92 s5 t0 t = some ((), σ') ∧ FC [6] σ σ' ∧ (∀ k, k < 8 → gI σ' 6 t0 0 k = gI σ 6 t0 0 k) ∧ Reck σ' t0 c p puff spit := by
        intro h8 h3
        have hlt : spit < (if c (45 + p) = 1 then 3 else 8) := by
          split
          · rename_i h; exact h3 h
          · exact h8
        unfold F6_reckon_p92
        rw [f9]
        by_cases h24 : 24 ≤ sPace c p puff spit
        · rw [if_pos h24, bnd_eq]
          have hf : sFate c p puff spit = 0 := by unfold sFate; rw [if_pos h0, if_pos hlt, if_pos h24]
          obtain ⟨σ', r1, r2, r3, r4⟩ := c_fly (σ := sI s5 6 t0 0 8 0) (t0 := t0) (ht.fc (FC.sI fs (by decide)) (by decide)) o hp (by rw [rI_n (by decide), f1]) (by rw [rI_n (by decide), f9]) h24
          refine ⟨σ', by rw [r1, bd_some], (FC.sI fs (by decide)).t r2, fun k hk => by rw [r3 k (by omega), rI_n (by omega), fk k hk], by rw [r3 8 (by decide), rI_s, hf], fun _ => ⟨by rw [r3 9 (by decide), rI_n (by decide), f9], r4⟩⟩
        · rw [if_neg h24]
          have hf : sFate c p puff spit = 3 := by unfold sFate; rw [if_pos h0, if_pos hlt, if_neg h24]
          refine ⟨_, rfl, FC.sI fs (by decide), fun k hk => by rw [rI_n (by omega), fk k hk], by rw [rI_s, hf], fun h2 => ?_⟩
          rw [hf] at h2; exact absurd h2 (by decide)
      rw [f6]
      by_cases h8 : 8 ≤ spit
      · rw [if_pos h8]
        refine stick ?_
        unfold sFate
        rw [if_pos h0, if_neg ?_]
        split
        · intro h; rw [i32_lt] at h; rw [i32_le] at h8; have e8 : (8 : Int32).toInt = 8 := rfl; have e3 : (3 : Int32).toInt = 3 := rfl; omega
        · exact Int32.not_lt.mpr h8
      · rw [if_neg h8]
        have h8' := Int32.not_le.mp h8
        by_cases h1 : c (45 + p) = 1
        · have : w = true := by rw [hw]; simp [h1]
          rw [if_pos this]
          by_cases h3 : spit < 3
          · rw [if_pos h3]; exact fly h8' (fun _ => h3)
          · rw [if_neg h3]
            refine stick ?_
            unfold sFate
            rw [if_pos h0, if_neg (by rw [if_pos h1]; exact h3)]
        · have : ¬ w = true := by rw [hw]; simp [h1]
          rw [if_neg this]; exact fly h8' (fun h => absurd h h1)
    rw [if_pos h0, ald_nI (by omega) (by omega), Option.bind_some, wet]
    by_cases h1 : c (45 + p) = 1
    · rw [if_pos h1]; exact key true (by simp [h1])
    · rw [if_neg h1]; exact key false (by simp [h1])
  · rw [if_neg h0]
    have hf : sFate c p puff spit = 1 := by unfold sFate; rw [if_neg h0]
    refine ⟨_, rfl, FC.sI FC.z (by decide), fun k hk => by rw [rI_n (by omega)], by rw [rI_s, hf], fun h2 => ?_⟩
    rw [hf] at h2; exact absurd h2 (by decide)
