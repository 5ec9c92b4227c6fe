/-! PURE. The class's chances against the model's. -/
theorem su_one1 (f : Nat → Nat) : su 1 f = f 0 := by rw [su_s, su_0, Nat.zero_add]
theorem su_two (f : Nat → Nat) : su 2 f = f 0 + f 1 := by rw [su_s, su_one1]
/-- the chances q hold l times what the model counts -/
def ChR (σ : Mem) (q : Nat) (z : ShN) (l : Nat) : Prop := 1 ≤ l ∧ l * oAll z = 2 * ((2 * zN z + 1) * (2 * zN z + 1)) ∧ (∀ v, v < 21 → gI σ 2 q 1 v = nI (l * oCnt z v)) ∧ gI σ 2 q 0 1 = nI (l * oAll z)
theorem ShotZ.fc {σ σ' : Mem} {z : ShN} (h : ShotZ σ z) (f : ∀ k, k < 8 → gI σ' 6 0 0 k = gI σ 6 0 0 k) : ShotZ σ' z := by
  obtain ⟨h0, h1, h2, h3, h4, h5, h6, h7⟩ := h
  exact ⟨by rw [f 0 (by decide), h0], by rw [f 1 (by decide), h1], by rw [f 2 (by decide), h2], by rw [f 3 (by decide), h3], by rw [f 4 (by decide), h4], by rw [f 5 (by decide), h5], by rw [f 6 (by decide), h6], by rw [f 7 (by decide), h7]⟩
theorem c_strikeX {σ : Mem} {t t0 s : Nat} {c : Nat → Int32} (ht : TentT (gI σ 9 t) c) (o : TentOk c) (hs : s < nat (c 6)) (e0 : gI σ 6 t0 0 0 = nI s) (turn : Int32) : F6_strikeX σ t0 t turn = some (gI σ 6 t0 0 4 + c (65 + s) + gI σ 6 t0 0 12 + turn * gI σ 6 t0 0 13) := by
  have h6 := ok_n6 o
  unfold F6_strikeX
  rw [e0, ald_nI (by omega) (by omega), Option.bind_some, (ht.2.2.2 s hs).2.2.1]
theorem c_strikeY {σ : Mem} {t t0 s : Nat} {c : Nat → Int32} (ht : TentT (gI σ 9 t) c) (o : TentOk c) (hs : s < nat (c 6)) (e0 : gI σ 6 t0 0 0 = nI s) : F6_strikeY σ t0 t = some (gI σ 6 t0 0 5 + c (71 + s) - gI σ 6 t0 0 11) := by
  have h6 := ok_n6 o
  unfold F6_strikeY
  rw [e0, ald_nI (by omega) (by omega), Option.bind_some, (ht.2.2.2 s hs).2.2.2]
/-- where it strikes is not far -/
theorem strike_int {z : ShN} (h : ShOk z) (ha : AimOk z) (hf : zFate z = 0) (t : Nat) : (-3000 ≤ (zX z + trn t * zOff z).toInt ∧ (zX z + trn t * zOff z).toInt ≤ 3000) ∧ (-3000 ≤ (zY z - sDrop (zTime z)).toInt ∧ (zY z - sDrop (zTime z)).toInt ≤ 3000) ∧ (-3000 ≤ (zX z).toInt ∧ (zX z).toInt ≤ 3000) := by
  obtain ⟨h1, h2⟩ := zFly_int h hf
  have h3 := sDrop_int h1
  have h4 := sAside_int h.1 h1
  have h5 := ok_sh h.1 h.2.1
  obtain ⟨a1, a2⟩ := ha
  have x1 : (z.2.2.2.2.2.1 + z.1 (65 + z.2.1)).toInt = z.2.2.2.2.2.1.toInt + (z.1 (65 + z.2.1)).toInt := i32_add (by omega) (by omega)
  have x2 : (zX z).toInt = z.2.2.2.2.2.1.toInt + (z.1 (65 + z.2.1)).toInt + (sAside z.1 (zTime z)).toInt := by unfold zX; rw [i32_add] <;> rw [x1] <;> omega
  have y1 : (zY z).toInt = z.2.2.2.2.2.2.1.toInt + (z.1 (71 + z.2.1)).toInt := i32_add (by omega) (by omega)
  have y2 : (zY z - sDrop (zTime z)).toInt = (zY z).toInt - (sDrop (zTime z)).toInt := i32_sub (by omega) (by omega)
  have t1 : (trn t * zOff z).toInt = (zOff z).toInt ∨ (trn t * zOff z).toInt = -(zOff z).toInt := by
    unfold trn
    split
    · left; rw [Int32.one_mul]
    · right
      have e : (-1 : Int32) * zOff z = - zOff z := by grind
      rw [e, i32_neg (by omega)]
  have x3 : (zX z + trn t * zOff z).toInt = (zX z).toInt + (trn t * zOff z).toInt := by rw [i32_add] <;> rw [x2] <;> rcases t1 with e | e <;> rw [e] <;> omega
  refine ⟨?_, ?_, ?_⟩
  · rw [x3, x2]; rcases t1 with e | e <;> rw [e] <;> omega
  · rw [y2, y1]; omega
  · rw [x2]; omega
theorem off_0 {z : ShN} (h : ShOk z) (hf : zFate z = 0) : zOff z = 0 ↔ zTurns z = 1 := by
  obtain ⟨-, h2⟩ := zFly_int h hf
  have e0 : (0 : Int32).toInt = 0 := rfl
  unfold zTurns
  constructor
  · intro e; rw [e, if_pos (by decide)]
  · intro e
    split at e
    · rename_i h3; rw [i32_le] at h3; rw [i32_eq]; omega
    · omega
theorem zTurns_2 {z : ShN} (h : zTurns z ≠ 1) : zTurns z = 2 := by unfold zTurns at *; split at h <;> simp_all
theorem ptc_zP {z : ShN} (n a b t : Nat) : ptc z.1 (zX z + trn t * zOff z) (zY z - sDrop (zTime z)) n a b = pt z.1 (zX z) (zY z) (sDrop (zTime z)) (zOff z) n a b t := by
  unfold ptc pt
  have e1 : zX z + trn t * zOff z - nI n + nI a = zX z + (nI a - nI n) + trn t * zOff z := by grind
  have e2 : zY z - sDrop (zTime z) - nI n + nI b = zY z + (nI b - nI n) - sDrop (zTime z) := by grind
  rw [e1, e2]
theorem c_chances {σ : Mem} {t q : Nat} {z : ShN} (ht : TentT (gI σ 9 t) z.1) (hz : ShOk z) (ha : AimOk z) (hs : ShotZ σ z) :
    ∃ σ' l, F2_reckon σ q t 0 = some ((), σ') ∧ FC [2, 6] σ σ' ∧ ShotZ σ' z ∧ gI σ' 6 0 0 8 = zFate z ∧ (∀ q' k, q' ≠ q → gI σ' 2 q' k = gI σ 2 q' k) ∧ gL σ' 2 = gL σ 2 ∧ ChR σ' q z l := by
  obtain ⟨hn1, hn2⟩ := zN_le hz
  obtain ⟨o, hsh, hp, hsp, hpf⟩ := hz
  have hz : ShOk z := ⟨o, hsh, hp, hsp, hpf⟩
  obtain ⟨f, k1, k2⟩ := fillI_eq (σ := σ) (a := 2) (b := q) (c := 1) (N := 21) (v := 0) (by omega)
  unfold F2_reckon
  rw [k1, bd_some]
  have f1 : FQ q σ (sIf σ 2 q 1 f) := FQ.sC FQ.z
  have k3 : ∀ v, v < 21 → gI (sIf σ 2 q 1 f) 2 q 1 v = 0 := fun v hv => by rw [rI_f]; exact k2 v hv
  have s1 : ∀ k, k < 8 → gI (sIf σ 2 q 1 f) 6 0 0 k = gI σ 6 0 0 k := fun k _ => by rw [rI_a (by decide)]
  generalize sIf σ 2 q 1 f = σ1 at *
  have hs1 : ShotZ σ1 z := hs.fc s1
  obtain ⟨σ2, r1, r2, r3, r4⟩ := c_reckon (σ := σ1) (t0 := 0) (ht.fc f1.1 (by decide)) o hp hsp ⟨hs1.2.1, hs1.2.2.1, hs1.2.2.2.2.2.2.1, hs1.2.2.2.2.2.2.2⟩
  rw [r1, bd_some]
  have hs2 : ShotZ σ2 z := hs1.fc r3
  have ht2 : TentT (gI σ2 9 t) z.1 := (ht.fc f1.1 (by decide)).fc r2 (by decide)
  rw [hs2.1, hs2.2.2.2.1, c_hand ht2 o hsh, hn2, Option.bind_some, bnd_eq]
  have hall : (2 * (2 * nI (zN z) + 1)) * (2 * nI (zN z) + 1) = nI (2 * ((2 * zN z + 1) * (2 * zN z + 1))) := by
    rw [show (2 : Int32) = nI 2 from rfl, pk_mul, nI_1, pk_mul, pk_mul, Nat.mul_assoc]
  rw [hall]
  have g4 : FQ q σ1 σ1 := FQ.z
  have w2 : ∀ v, v < 21 → gI (sI σ2 2 q 0 1 (nI (2 * ((2 * zN z + 1) * (2 * zN z + 1))))) 2 q 1 v = nI 0 := fun v hv => by rw [rI_c (by decide), r2.fI 2 q 1 (by decide), k3 v hv]; rfl
  have wa : gI (sI σ2 2 q 0 1 (nI (2 * ((2 * zN z + 1) * (2 * zN z + 1))))) 2 q 0 1 = nI (2 * ((2 * zN z + 1) * (2 * zN z + 1))) := rI_s
  have w6 : ∀ k, gI (sI σ2 2 q 0 1 (nI (2 * ((2 * zN z + 1) * (2 * zN z + 1))))) 6 0 0 k = gI σ2 6 0 0 k := fun k => by rw [rI_a (by decide)]
  have wf : FC [2, 6] σ (sI σ2 2 q 0 1 (nI (2 * ((2 * zN z + 1) * (2 * zN z + 1))))) := (f1.1.m (by decide)).t (FC.sI (r2.m (by decide)) (by decide))
  have wq : ∀ q' k, q' ≠ q → gI (sI σ2 2 q 0 1 (nI (2 * ((2 * zN z + 1) * (2 * zN z + 1))))) 2 q' k = gI σ 2 q' k := fun q' k hq => by
    rw [← f1.2.1 q' k hq, ← r2.fI 2 q' k (by decide)]; simp [gI_sI, hq]
  have wl : gL (sI σ2 2 q 0 1 (nI (2 * ((2 * zN z + 1) * (2 * zN z + 1))))) 2 = gL σ 2 := by
    rw [← f1.2.2.2]; funext b' c'; exact r2.fL 2 b' c' (by decide)
  generalize sI σ2 2 q 0 1 (nI (2 * ((2 * zN z + 1) * (2 * zN z + 1)))) = σ4 at *
  have hs4 : ShotZ σ4 z := hs2.fc (fun k _ => w6 k)
  have ht4 : TentT (gI σ4 9 t) z.1 := ht.fc wf (by decide)
  obtain ⟨t1, t2⟩ := r4
  have fin : ∀ (σ5 : Mem) (l : Nat), FQ q σ4 σ5 → 1 ≤ l → l * oAll z = 2 * ((2 * zN z + 1) * (2 * zN z + 1)) → (∀ v, v < 21 → gI σ5 2 q 1 v = nI (l * oCnt z v)) →
      FC [2, 6] σ σ5 ∧ ShotZ σ5 z ∧ gI σ5 6 0 0 8 = zFate z ∧ (∀ q' k, q' ≠ q → gI σ5 2 q' k = gI σ 2 q' k) ∧ gL σ5 2 = gL σ 2 ∧ ChR σ5 q z l := by
    intro σ5 l hq h1 h2 h3
    have h6 : ∀ k, gI σ5 6 0 0 k = gI σ4 6 0 0 k := fun k => by rw [hq.1.fI 6 0 0 (by decide)]
    exact ⟨wf.t (hq.1.m (by decide)), hs4.fc (fun k _ => h6 k), by rw [h6, w6, t1]; rfl, fun q' k hq' => by rw [hq.2.1 q' k hq', wq q' k hq'], by rw [hq.2.2.2, wl], h1, h2, h3, by rw [hq.2.2.1, wa, h2]⟩
  have e8 : gI σ4 6 0 0 8 = zFate z := by rw [w6, t1]; rfl
  rw [e8]
  by_cases hf : zFate z = 0
  · rw [if_pos hf]
    obtain ⟨-, g1, g2, g3, g5⟩ := t2 hf
    have gt : gI σ2 6 0 0 10 = zTime z := g1
    have e11 : gI σ4 6 0 0 11 = sDrop (zTime z) := by rw [w6, g2, gt]
    have e12 : gI σ4 6 0 0 12 = sAside z.1 (zTime z) := by rw [w6, g3, gt]
    have e13 : gI σ4 6 0 0 13 = zOff z := by rw [w6, g5, gt]; rfl
    have b := strike_int hz ha hf
    have eY : gI σ4 6 0 0 5 + z.1 (71 + z.2.1) - gI σ4 6 0 0 11 = zY z - sDrop (zTime z) := by rw [e11, hs4.2.2.2.2.2.1]; rfl
    have eX : ∀ turn, gI σ4 6 0 0 4 + z.1 (65 + z.2.1) + gI σ4 6 0 0 12 + turn * gI σ4 6 0 0 13 = zX z + turn * zOff z := fun turn => by rw [e12, e13, hs4.2.2.2.2.1]; rfl
    rw [c_strikeY ht4 o hsh hs4.1, Option.bind_some, eY, e13]
    have a4 : AccC q σ4 σ4 (fun _ => 0) := ⟨FQ.z, w2⟩
    by_cases ho : zOff z = 0
    · have hT := (off_0 hz hf).mp ho
      rw [if_pos ho, c_strikeX ht4 o hsh hs4.1, Option.bind_some, eX]
      have e0 : zX z + 0 * zOff z = zX z + trn 0 * zOff z := by rw [ho]; rfl
      rw [e0]
      obtain ⟨σ5, n1, n2⟩ := c_aL (q := q) ht4 o hn1 (b 0).1 (b 0).2.1 2 a4
      rw [show (2 : Int32) = nI 2 from rfl, n1, bd_some]
      refine ⟨σ5, 2, rfl, fin σ5 2 n2.1 (by omega) ?_ (fun v hv => ?_)⟩
      · rw [oAll, if_pos hf, hT, Nat.mul_one]
      · rw [n2.2 v hv, oCnt, if_pos hf, hT]
        refine congrArg nI ?_
        simp only [Nat.zero_add, s3, su_one1, zP, ptc_zP]
    · have hT := zTurns_2 (fun e => ho ((off_0 hz hf).mpr e))
      rw [if_neg ho, c_strikeX ht4 o hsh hs4.1, Option.bind_some, eX]
      obtain ⟨σ5, n1, n2⟩ := c_aL (q := q) ht4 o hn1 (b 0).1 (b 0).2.1 1 a4
      rw [show zX z + 1 * zOff z = zX z + trn 0 * zOff z from rfl, show F2_count σ4 q t (zX z + trn 0 * zOff z) (zY z - sDrop (zTime z)) (nI (zN z)) 1 = F2_count σ4 q t (zX z + trn 0 * zOff z) (zY z - sDrop (zTime z)) (nI (zN z)) (nI 1) from rfl, n1, bd_some]
      have h65 : ∀ k, gI σ5 6 0 0 k = gI σ4 6 0 0 k := fun k => by rw [n2.1.1.fI 6 0 0 (by decide)]
      rw [c_strikeX (ht4.fc n2.1.1 (by decide)) o hsh (by rw [h65]; exact hs4.1), Option.bind_some, h65, h65, h65, eX]
      obtain ⟨σ6, m1, m2⟩ := c_aL (q := q) ht4 o hn1 (b 1).1 (b 1).2.1 1 n2
      rw [show zX z + -1 * zOff z = zX z + trn 1 * zOff z from rfl, show F2_count σ5 q t (zX z + trn 1 * zOff z) (zY z - sDrop (zTime z)) (nI (zN z)) 1 = F2_count σ5 q t (zX z + trn 1 * zOff z) (zY z - sDrop (zTime z)) (nI (zN z)) (nI 1) from rfl, m1, bd_some]
      refine ⟨σ6, 1, rfl, fin σ6 1 m2.1 (by omega) ?_ (fun v hv => ?_)⟩
      · rw [oAll, if_pos hf, hT]; omega
      · rw [m2.2 v hv, oCnt, if_pos hf, hT]
        refine congrArg nI ?_
        simp only [Nat.zero_add, Nat.one_mul, s3, su_two, zP, ptc_zP, su_add]
  · rw [if_neg hf, wa, show (0 : Int32) = nI 0 from rfl, chk_nI (by omega) (by omega), bnd_eq, cl_nI (by omega)]
    refine ⟨_, 2 * ((2 * zN z + 1) * (2 * zN z + 1)), rfl, fin _ _ (FQ.sC FQ.z) ?_ ?_ (fun v hv => ?_)⟩
    · have := Nat.mul_le_mul (show 1 ≤ 2 * zN z + 1 by omega) (show 1 ≤ 2 * zN z + 1 by omega); omega
    · rw [oAll, if_neg hf, Nat.mul_one]
    · rw [rI_f, upd_eq, oCnt, if_neg hf]
      by_cases e : v = 0
      · subst e; simp [one_s]
      · rw [if_neg e, one_n e, w2 v hv, Nat.mul_zero]
theorem ChR.le {σ : Mem} {q l : Nat} {z : ShN} (h : ChR σ q z l) (hz : ShOk z) : l * oAll z ≤ 338 ∧ 1 ≤ l * oAll z ∧ (∀ v, l * oCnt z v ≤ 338) ∧ l * oSum z ≤ 6760 := by
  obtain ⟨h1, h2, -, -⟩ := h
  have h3 := sq_le (zN_le hz).1
  have h4 := oAll_le hz
  refine ⟨by omega, Nat.mul_le_mul h1 h4.1, fun v => ?_, ?_⟩
  · have := Nat.mul_le_mul_left l (oCnt_le hz v); omega
  · have h5 := Nat.mul_le_mul_left l (oSum_le hz)
    rw [← Nat.mul_assoc, Nat.mul_comm l 20, Nat.mul_assoc] at h5; omega
theorem c_sum {σ : Mem} {q l : Nat} {z : ShN} (h : ChR σ q z l) (hz : ShOk z) : F2_sum σ q = some (lN (l * oSum z)) := by
  have hle := h.le hz
  have key : ∃ r, F2_sum_L4 σ q fuelK 0 1 = some r ∧ r = lN (su 21 (fun v => v * (l * oCnt z v))) := by
    refine loopG (L := fun m (w : Int64 × Int32) => F2_sum_L4 σ q m w.1 w.2) (N := 21)
      (Inv := fun i w => 1 ≤ i ∧ w.2 = nI i ∧ w.1 = lN (su i (fun v => v * (l * oCnt z v)))) ?_ 20 fuelK 1 (0, 1) (by omega) (fuelK_lt (by omega)) ⟨by omega, rfl, by simp [su_s, su_0, lN]⟩
    rintro m i ⟨y, w⟩ hi ⟨e0, e1, e2⟩
    simp only at e1 e2
    subst e1; subst e2
    simp only [F2_sum_L4.eq_2]
    by_cases e : i = 21
    · subst e
      exact .inl ⟨_, by rw [if_pos (by decide)], rfl⟩
    · refine .inr ⟨by omega, ?_⟩
      rw [if_neg (by rw [show (20 : Int32) = nI 20 from rfl, nI_ltI (by omega) (by omega)]; omega), ald_nI (by omega) (by omega), Option.bind_some, bnd_eq, h.2.2.1 i (by omega), nI_1, nI_l (by omega), nI_l (by have := hle.2.2.1 i; omega), lN_mul, lN_add]
      exact ⟨(_, _), rfl, by omega, rfl, rfl⟩
  obtain ⟨r, k1, k2⟩ := key
  rw [F2_sum, k1, Option.bind_some, k2]
  congr 2
  rw [← oSum_eq hz, ← su_mul]
  exact su_congr _ (fun k _ => by rw [← Nat.mul_assoc, Nat.mul_comm k l, Nat.mul_assoc])
/-- from k on -/
def sr (k n : Nat) (f : Nat → Nat) : Nat := su n (fun i => f (k + i))
theorem c_atLeast {σ : Mem} {q l k : Nat} {z : ShN} (h : ChR σ q z l) (hz : ShOk z) (hk : k ≤ 20) : F2_atLeast σ q (nI k) = some (lN (l * sr k (21 - k) (oCnt z))) := by
  have hle := h.le hz
  have key : ∃ r, F2_atLeast_L9 σ q fuelK 0 (nI k) = some r ∧ r = lN (l * sr k (21 - k) (oCnt z)) := by
    refine loopG (L := fun m (w : Int64 × Int32) => F2_atLeast_L9 σ q m w.1 w.2) (N := 21 - k)
      (Inv := fun i w => w.2 = nI (k + i) ∧ w.1 = lN (l * sr k i (oCnt z))) ?_ (21 - k) fuelK 0 (0, nI k) (by omega) (fuelK_lt (by omega)) ⟨rfl, by simp [sr, su_0, lN]⟩
    rintro m i ⟨y, w⟩ hi ⟨e1, e2⟩
    simp only at e1 e2
    subst e1; subst e2
    simp only [F2_atLeast_L9.eq_2]
    by_cases e : i = 21 - k
    · subst e
      exact .inl ⟨_, by rw [if_pos (by rw [show (20 : Int32) = nI 20 from rfl, nI_ltI (by omega) (by omega)]; omega)], rfl⟩
    · refine .inr ⟨by omega, ?_⟩
      rw [if_neg (by rw [show (20 : Int32) = nI 20 from rfl, nI_ltI (by omega) (by omega)]; omega), ald_nI (by omega) (by omega), Option.bind_some, bnd_eq, h.2.2.1 (k + i) (by omega), nI_1, nI_l (by have := hle.2.2.1 (k + i); omega), lN_add]
      refine ⟨(_, _), rfl, rfl, ?_⟩
      simp only [sr, su_s, Nat.mul_add]
      rfl
  obtain ⟨r, k1, k2⟩ := key
  have hm : iMax 0 (nI k) = nI k := by
    unfold iMax
    split
    · rfl
    · rename_i h2
      rw [show (0 : Int32) = nI 0 from rfl, nI_ltI (by omega) (by omega)] at h2
      rw [show k = 0 by omega]; rfl
  rw [F2_atLeast, bnd_eq, hm, k1, Option.bind_some, k2]
theorem m_atLeast {σ : Mem} {k : Nat} {z : ShN} (h : ∀ v, v < 21 → gI σ 12 0 8 v = nI (oCnt z v)) (hk : k ≤ 20) : F12_odds_L110 σ fuelK 0 (nI k) = some (nI (sr k (21 - k) (oCnt z))) := by
  have key : ∃ r, F12_odds_L110 σ fuelK 0 (nI k) = some r ∧ r = nI (sr k (21 - k) (oCnt z)) := by
    refine loopG (L := fun m (w : Int32 × Int32) => F12_odds_L110 σ m w.1 w.2) (N := 21 - k)
      (Inv := fun i w => w.2 = nI (k + i) ∧ w.1 = nI (sr k i (oCnt z))) ?_ (21 - k) fuelK 0 (0, nI k) (by omega) (fuelK_lt (by omega)) ⟨rfl, rfl⟩
    rintro m i ⟨y, w⟩ hi ⟨e1, e2⟩
    simp only at e1 e2
    subst e1; subst e2
    simp only [F12_odds_L110.eq_2]
    by_cases e : i = 21 - k
    · subst e
      exact .inl ⟨_, by rw [if_pos (by rw [show (21 : Int32) = nI 21 from rfl, nI_leI (by omega) (by omega)]; omega)], rfl⟩
    · refine .inr ⟨by omega, ?_⟩
      rw [if_neg (by rw [show (21 : Int32) = nI 21 from rfl, nI_leI (by omega) (by omega)]; omega), ald_nI (by omega) (by omega), Option.bind_some, bnd_eq, h (k + i) (by omega), nI_1, nI_add]
      exact ⟨(_, _), rfl, rfl, rfl⟩
  obtain ⟨r, k1, k2⟩ := key
  rw [k1, k2]
theorem sr_le {z : ShN} (hz : ShOk z) (k n : Nat) (hn : n ≤ 21) : sr k n (oCnt z) ≤ 7098 := by
  have h1 := su_le (f := fun i => oCnt z (k + i)) (M := 338) n (fun i _ => by have := oCnt_le hz (k + i); have := oAll_le hz; omega)
  unfold sr
  omega
