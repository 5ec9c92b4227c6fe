/-! PURE. bestAim. -/
section AIB
variable {σC σM σ σm : Mem} {p s t : Nat} {c : Nat → Int32} {puff beat sp : Int32}
theorem aim_offer {any : Bool} {best w : Int32} {z : ShN} {l : Nat} (b : BestR any σ σm best) (hz : ShOk z) (hl1 : 1 ≤ l) (hle1 : l * oAll z ≤ 338) (hle2 : l * oSum z ≤ 6760) (h33 : gI σm 12 0 0 33 = nI (oAll z)) (h34 : gI σm 12 0 0 34 = nI (oSum z)) :
    ∃ σ' σm' bt, F1_offer σ w (lN (l * oSum z)) (lN (l * oAll z)) = some ((), σ') ∧ FC [1] σ σ' ∧ F12_isBetter σm = some (bt, σm') ∧ FM [] [35, 36] [] σm σm' ∧ BestR true σ' σm' (if bt = true then w else best) := by
  have hA := oAll_le hz
  have hS := oSum_le hz
  have rep : ∃ σ', (bnd (sB σ 1 0 0 0 true) fun s_5 => bnd (sI s_5 1 0 0 1 w) fun s_6 => bnd (sL s_6 1 0 0 2 (lN (l * oSum z))) fun s_7 => bnd (sL s_7 1 0 0 3 (lN (l * oAll z))) fun s_8 => some ((), s_8)) = some ((), σ') ∧ FC [1] σ σ' ∧ gB σ' 1 0 0 0 = true ∧ gI σ' 1 0 0 1 = w ∧ gL σ' 1 0 0 2 = lN (l * oSum z) ∧ gL σ' 1 0 0 3 = lN (l * oAll z) := by
    simp only [bnd_eq]
    refine ⟨_, rfl, ?_, ?_, ?_, ?_, ?_⟩
    · repeat' first | exact FC.z | refine FC.sI ?_ (by decide) | refine FC.sL ?_ (by decide) | refine FC.sB ?_ (by decide)
    all_goals simp (disch := decide) only [rI_s, rI_n, rI_f, rI_a, rI_c, rL_s, rL_n, rL_f, rL_a, rL_c, rB_s, rB_n, rB_a, rR_s, rR_n, gI_sL, gI_sB, gI_sR, gL_sI, gL_sB, gL_sR, gB_sI, gB_sL, gB_sR, gR_sI, gR_sL, gR_sB]
  have repm : ∃ σm', (bnd (sL σm 12 0 0 35 (lN (oSum z))) fun s_1 => bnd (sL s_1 12 0 0 36 (Int32.toInt64 (gI s_1 12 0 0 33))) fun s_2 => some (true, s_2)) = some (true, σm') ∧ FM [] [35, 36] [] σm σm' ∧ gL σm' 12 0 0 35 = lN (oSum z) ∧ gL σm' 12 0 0 36 = lN (oAll z) := by
    simp only [bnd_eq]
    refine ⟨_, rfl, ?_, ?_, ?_⟩
    · repeat' first | exact FM.z | refine FM.sI ?_ (by decide) | refine FM.sL ?_ (by decide) | refine FM.sP ?_ (by decide) (by decide) | refine FM.sPL ?_ (by decide) (by decide)
    · simp (disch := decide) only [rI_s, rI_n, rI_f, rI_a, rI_c, rL_s, rL_n, rL_f, rL_a, rL_c, rB_s, rB_n, rB_a, rR_s, rR_n, gI_sL, gI_sB, gI_sR, gL_sI, gL_sB, gL_sR, gB_sI, gB_sL, gB_sR, gR_sI, gR_sL, gR_sB]
    · rw [rL_s, gI_sL, h33, nI_l (by omega)]
  obtain ⟨σ', c1, c2, c3, c4, c5, c6⟩ := rep
  obtain ⟨σm', d1, d2, d3, d4⟩ := repm
  have fin : BestR true σ' σm' w := .inr ⟨rfl, c3, c4, l, oSum z, oAll z, hl1, hA.1, hle2, hle1, c5, c6, d3, d4⟩
  unfold F1_offer F12_isBetter
  rw [h33, h34, nI_l (show oAll z < 2 ^ 31 by omega), nI_l (show oSum z < 2 ^ 31 by omega)]
  rcases b with ⟨-, b1, b2, b3⟩ | ⟨-, b1, b2, l', T, B, b3, b4, b5, b6, b7, b8, b9, b10⟩
  · have hlt : gL σm 12 0 0 35 * lN (oAll z) < lN (oSum z) * gL σm 12 0 0 36 := by
      rw [b2, b3, Int64.mul_one, i64_lt, Int64.neg_mul, Int64.one_mul, i64_neg (by rw [lN_int (by omega)]; omega), lN_int (by omega), lN_int (by omega)]; omega
    rw [b1, if_neg (by decide), if_pos hlt]
    exact ⟨σ', σm', true, c1, c2, d1, d2, fin⟩
  · have hl : 1 ≤ l := hl1
    have hB : B ≤ 338 := Nat.le_trans (Nat.le_mul_of_pos_left B (by omega)) b6
    have hT : T ≤ 6760 := Nat.le_trans (Nat.le_mul_of_pos_left T (by omega)) b5
    have x1 : l * oSum z * (l' * B) ≤ 6760 * 338 := Nat.mul_le_mul hle2 b6
    have x2 : l' * T * (l * oAll z) ≤ 6760 * 338 := Nat.mul_le_mul b5 hle1
    have x3 : T * oAll z ≤ 6760 * 338 := Nat.mul_le_mul hT hA.2
    have x4 : oSum z * B ≤ 6760 * 338 := Nat.mul_le_mul (by omega) hB
    have y1 : l * oSum z * (l' * B) = l * l' * (oSum z * B) := by rw [Nat.mul_mul_mul_comm]
    have y2 : l' * T * (l * oAll z) = l * l' * (T * oAll z) := by rw [Nat.mul_mul_mul_comm, Nat.mul_comm l' l]
    have hll : 0 < l * l' := Nat.mul_pos (by omega) (by omega)
    rw [b1, if_pos rfl, b7, b8, b9, b10, lN_mul, lN_mul, lN_mul, lN_mul]
    by_cases hc : oSum z * B ≤ T * oAll z
    · rw [if_pos ((lN_le (by omega) (by omega)).mpr (by rw [y1, y2]; exact Nat.mul_le_mul_left _ hc)), if_neg (fun e => by have := (lN_lt (by omega) (by omega)).mp e; omega)]
      exact ⟨σ, σm, false, rfl, FC.z, rfl, FM.z, .inr ⟨rfl, b1, b2, l', T, B, b3, b4, b5, b6, b7, b8, b9, b10⟩⟩
    · rw [if_neg (fun e => by
        have h9 := (lN_le (by omega) (by omega)).mp e
        rw [y1, y2] at h9
        exact hc (Nat.le_of_mul_le_mul_left h9 hll)), if_pos ((lN_lt (by omega) (by omega)).mpr (by omega))]
      exact ⟨σ', σm', true, c1, c2, d1, d2, fin⟩
/-- the aim that is i and j steps from the first -/
abbrev zIJ (c : Nat → Int32) (s p : Nat) (puff beat sp : Int32) (i j : Nat) : ShN := (c, s, p, puff, beat, nI i - 20, nI j - 20, sp)
abbrev zOO (c : Nat → Int32) (s p : Nat) (puff beat sp : Int32) : ShN := (c, s, p, puff, beat, 0, 0, sp)
def xa (n i a : Nat) : Int32 := nI i - 20 + (nI a - nI n)
theorem xa_next (n i a : Nat) : xa n i (a + 1) = xa n (i + 1) a := by
  unfold xa; rw [← nI_1, ← nI_1]; grind
theorem colT_sum (hf : sFate c p puff sp = 0) (i j : Nat) : su (2 * zN (zOO c s p puff beat sp) + 1) (fun a => colT (zOO c s p puff beat sp) (xa (zN (zOO c s p puff beat sp)) i a) j) = lz (zOO c s p puff beat sp) * oSum (zIJ c s p puff beat sp i j) := by
  have eN : zN (zIJ c s p puff beat sp i j) = zN (zOO c s p puff beat sp) := rfl
  have eT : zTurns (zIJ c s p puff beat sp i j) = zTurns (zOO c s p puff beat sp) := rfl
  have hf' : zFate (zIJ c s p puff beat sp i j) = 0 := hf
  have l1 : ∀ a b e : Int32, a + b + e = a + (0 + b + e) := by intros; grind
  have l2 : ∀ a b : Int32, a + b = a + (0 + b) := by intros; grind
  have eX : zX (zIJ c s p puff beat sp i j) = (nI i - 20) + zX (zOO c s p puff beat sp) := l1 _ _ _
  have eY : zY (zIJ c s p puff beat sp i j) = (nI j - 20) + zY (zOO c s p puff beat sp) := l2 _ _
  have eD : sDrop (zTime (zIJ c s p puff beat sp i j)) = sDrop (zTime (zOO c s p puff beat sp)) := rfl
  have eO : zOff (zIJ c s p puff beat sp i j) = zOff (zOO c s p puff beat sp) := rfl
  unfold oSum
  rw [if_pos hf', eN, eT]
  unfold s3 zP pt
  rw [eN, eX, eY, eD, eO]
  unfold colT
  rw [su_mul]
  refine congrArg (lz (zOO c s p puff beat sp) * ·) (su_congr _ (fun a _ => ?_))
  rw [su_swap]
  refine su_congr _ (fun b _ => su_congr _ (fun t _ => ?_))
  unfold colF xa
  rw [← nI_add]
  generalize zX (zOO c s p puff beat sp) = X0
  generalize zY (zOO c s p puff beat sp) = Y0
  generalize sDrop (zTime (zOO c s p puff beat sp)) = D
  generalize trn t * zOff (zOO c s p puff beat sp) = O
  generalize zN (zOO c s p puff beat sp) = n
  have e1 : nI i - 20 + (nI a - nI n) + (X0 + O) = nI i - 20 + X0 + (nI a - nI n) + O := by grind
  have e2 : Y0 - D - 20 - nI n + (nI j + nI b) = nI j - 20 + Y0 + (nI b - nI n) - D := by grind
  show nat (sPts c _ _) = nat (sPts c _ _)
  rw [e1, e2]
theorem lz_all (h : sFate c p puff sp = 0) (i j : Nat) : 1 ≤ lz (zOO c s p puff beat sp) ∧ lz (zOO c s p puff beat sp) * oAll (zIJ c s p puff beat sp i j) = zA (zOO c s p puff beat sp) := by
  have hf' : zFate (zIJ c s p puff beat sp i j) = 0 := h
  have eN : zN (zIJ c s p puff beat sp i j) = zN (zOO c s p puff beat sp) := rfl
  have eT : zTurns (zIJ c s p puff beat sp i j) = zTurns (zOO c s p puff beat sp) := rfl
  unfold lz oAll zA
  rw [if_pos hf', eN, eT]
  by_cases e : zTurns (zOO c s p puff beat sp) = 1
  · rw [if_pos e, e]; exact ⟨by omega, by rw [Nat.mul_one]⟩
  · rw [if_neg e, zTurns_2 e]; exact ⟨by omega, by omega⟩
theorem aim_lt {j : Nat} (hj : j ≤ 41) : (20 : Int32) < nI j - 20 ↔ j = 41 := by
  rw [i32_lt, show (nI j - 20 : Int32) = nI j - nI 20 from rfl, sub_int (by omega) (by omega), show (20 : Int32).toInt = 20 from rfl]; omega
theorem aim_nx (j : Nat) : nI j - 20 + 1 = nI (j + 1) - 20 := by rw [← nI_1]; grind
def pick (x5 : Int32) (B : Nat) : Int32 := if x5 = 0 then nI (B / 41) - 20 else nI (B % 41) - 20
theorem zA_le {z : ShN} (hz : ShOk z) : 1 ≤ zA z ∧ zA z ≤ 338 := by
  have h := sq_le (zN_le hz).1
  unfold zA
  have : 1 * 1 ≤ (2 * zN z + 1) * (2 * zN z + 1) := Nat.mul_le_mul (by omega) (by omega)
  omega
theorem aim_row (hz : ShOk (zOO c s p puff beat sp)) (hc7 : c 7 = sp) (hf : sFate c p puff sp = 0) {i : Nat} (hi : i < 41) {x5 x7' : Int32} {B : Nat} {any : Bool} (ha : any = decide (0 < i)) (hB : B < 1681) (b : BestR any σ σm (nI B)) (g : FMS (mS σM) σm) (hc : gI σM 12 0 5 = c)
    (hS : ∀ j, j < 41 → gI σ 0 0 1 j = nI (lz (zOO c s p puff beat sp) * oSum (zIJ c s p puff beat sp i j))) :
    ∃ (r : Unit × Mem) (q : Int32 × Mem), F0_search_L132 t 0 (nI (zN (zOO c s p puff beat sp))) (nI (zA (zOO c s p puff beat sp))) (nI i) x7' fuelK σ 0 = some r ∧ F12_bestAim_L93 (nI s) (nI p) puff beat x5 (nI i - 20) fuelK σm (pick x5 B) (-20) = some q ∧
      FC [1] σ r.2 ∧ FMS (mS σM) q.2 ∧ ∃ B', B' < 1681 ∧ BestR true r.2 q.2 (nI B') ∧ q.1 = pick x5 B' := by
  refine loop2 (L1 := fun n (w : Mem × Int32) => F0_search_L132 t 0 (nI (zN (zOO c s p puff beat sp))) (nI (zA (zOO c s p puff beat sp))) (nI i) x7' n w.1 w.2) (L2 := fun n (w : Mem × Int32 × Int32) => F12_bestAim_L93 (nI s) (nI p) puff beat x5 (nI i - 20) n w.1 w.2.1 w.2.2) (N := 41)
    (Inv := fun j w v => w.2 = nI j ∧ v.2.2 = nI j - 20 ∧ FC [1] σ w.1 ∧ FMS (mS σM) v.1 ∧ ∃ B', B' < 1681 ∧ BestR (decide (0 < i * 41 + j)) w.1 v.1 (nI B') ∧ v.2.1 = pick x5 B') ?_ 41 fuelK fuelK 0 (σ, 0) (σm, pick x5 B, -20) (by omega) (fuelK_lt (by omega)) (fuelK_lt (by omega)) ⟨rfl, rfl, FC.z, g, B, hB, b.an (by rw [ha]; simp), rfl⟩
  rintro n m j ⟨σ1, x8⟩ ⟨σm1, x6, x8m⟩ hj ⟨e1, e2, f1, g1, B1, hB1, b1, e3⟩
  simp only at e1 e2 f1 g1 b1 e3
  subst e1; subst e2; subst e3
  simp only [F0_search_L132.eq_2, F12_bestAim_L93.eq_2]
  by_cases e : j = 41
  · subst e
    rw [if_pos (show (41 : Int32) ≤ nI 41 from Int32.le_refl _), if_pos ((aim_lt (by omega)).mpr rfl)]
    exact .inl ⟨_, _, rfl, rfl, f1, g1, B1, hB1, b1.an (by simp), rfl⟩
  · refine .inr ⟨by omega, ?_⟩
    have hc1 : gI σm1 12 0 5 = c := ((FM.c g1 (by decide)).trans mS_c).trans hc
    have hzj : ShOk (zIJ c s p puff beat sp i j) := hz
    obtain ⟨la, lb⟩ := lz_all (beat := beat) (s := s) hf i j
    have zl := zA_le hz
    have h2 := oSum_le hzj
    have h3 : lz (zOO c s p puff beat sp) * oSum (zIJ c s p puff beat sp i j) ≤ 6760 := by
      have := Nat.mul_le_mul_left (lz (zOO c s p puff beat sp)) h2
      have e : lz (zOO c s p puff beat sp) * (20 * oAll (zIJ c s p puff beat sp i j)) = 20 * (lz (zOO c s p puff beat sp) * oAll (zIJ c s p puff beat sp i j)) := by
        rw [← Nat.mul_assoc, Nat.mul_comm _ 20, Nat.mul_assoc]
      rw [e, lb] at this; omega
    obtain ⟨σm2, m1, m2, m3, m4, m5⟩ := m_counts (σ := σm1) (s := s) (p := p) (puff := puff) (beat := beat) (x := nI i - 20) (y := nI j - 20) (spit := sp) (by rw [hc1]; exact hzj)
    rw [hc1] at m4 m5
    have b2 := b1.fc (σ' := σ1) (S := []) FC.z (by decide) m2
    obtain ⟨σ3, σm3, bt, o1, o2, o3, o4, o5⟩ := aim_offer (w := nI (i * 41 + j)) b2 hzj la (by omega) h3 m4 m5
    rw [if_neg (show ¬ (41 : Int32) ≤ nI j from nI_ge (a := j) (b := 41) (by omega) (by omega)), if_neg (fun e2 => e ((aim_lt (by omega)).mp e2)), ald_nI (by omega) (by omega), Option.bind_some, f1.fI 0 0 1 (by decide), hS j (by omega), nI_l (show lz (zOO c s p puff beat sp) * oSum (zIJ c s p puff beat sp i j) < 2 ^ 31 by omega), nI_l (show zA (zOO c s p puff beat sp) < 2 ^ 31 by omega), ← lb, show nI i * (41 : Int32) + nI j = nI (i * 41 + j) by rw [show (41 : Int32) = nI 41 from rfl, pk_mul, nI_add], o1, bd_some, hc1, al_7, Option.bind_some, hc7, m1, bd_some, o3, bd_some, nI_1, aim_nx]
    refine ⟨(σ3, nI (j + 1)), (σm3, pick x5 (if bt = true then i * 41 + j else B1), nI (j + 1) - 20), rfl, ?_, rfl, rfl, f1.t o2, FM.t g1 ((m2.m (by decide) (by decide) (by decide)).t (o4.m (by decide) (by decide) (by decide))), if bt = true then i * 41 + j else B1, ?_, ?_, rfl⟩
    · cases bt with
      | false => rfl
      | true =>
        unfold pick
        by_cases e5 : x5 = 0
        · simp only [if_true, e5]
          rw [show (i * 41 + j) / 41 = i by omega]
        · simp only [if_true, if_neg e5]
          rw [show (i * 41 + j) % 41 = j by omega]
    · cases bt <;> simp <;> omega
    · have := o5.an (b := decide (0 < i * 41 + (j + 1))) (by simp; omega)
      cases bt <;> exact this
end AIB
