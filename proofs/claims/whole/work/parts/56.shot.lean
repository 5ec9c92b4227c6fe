/-! PURE. One shot on each side. -/
section RD
variable {σ : Mem} {a b c a' b' c' k j : Nat}
theorem rI_s {f : Nat → Int32} {v : Int32} : gI (sIf σ a b c (upd f k v)) a b c k = v := by simp [gI_sI, upd_eq]
theorem rI_n {f : Nat → Int32} {v : Int32} (h : ¬ j = k) : gI (sIf σ a b c (upd f k v)) a b c j = f j := by simp [gI_sI, upd_eq, h]
theorem rI_f {f : Nat → Int32} : gI (sIf σ a b c f) a b c = f := by simp [gI_sI]
theorem rI_a {f : Nat → Int32} (h : ¬ a' = a) : gI (sIf σ a b c f) a' b' c' = gI σ a' b' c' := by simp [gI_sI, h]
theorem rI_c {f : Nat → Int32} (h : ¬ c' = c) : gI (sIf σ a b c f) a' b' c' = gI σ a' b' c' := by simp [gI_sI, h]
theorem rL_s {f : Nat → Int64} {v : Int64} : gL (sLf σ a b c (vp_updL f k v)) a b c k = v := by simp [gL_sL, updL_eq]
theorem rL_n {f : Nat → Int64} {v : Int64} (h : ¬ j = k) : gL (sLf σ a b c (vp_updL f k v)) a b c j = f j := by simp [gL_sL, updL_eq, h]
theorem rL_f {f : Nat → Int64} : gL (sLf σ a b c f) a b c = f := by simp [gL_sL]
theorem rL_a {f : Nat → Int64} (h : ¬ a' = a) : gL (sLf σ a b c f) a' b' c' = gL σ a' b' c' := by simp [gL_sL, h]
theorem rL_c {f : Nat → Int64} (h : ¬ c' = c) : gL (sLf σ a b c f) a' b' c' = gL σ a' b' c' := by simp [gL_sL, h]
theorem rB_s {f : Nat → Bool} {v : Bool} : gB (sBf σ a b c (upB f k v)) a b c k = v := by simp [gB_sB, upB_eq]
theorem rB_n {f : Nat → Bool} {v : Bool} (h : ¬ j = k) : gB (sBf σ a b c (upB f k v)) a b c j = f j := by simp [gB_sB, upB_eq, h]
theorem rB_a {f : Nat → Bool} (h : ¬ a' = a) : gB (sBf σ a b c f) a' b' c' = gB σ a' b' c' := by simp [gB_sB, h]
theorem rR_s {f : Nat → Nat} {v : Nat} : gR (sRf σ a b c (upR f k v)) a b c k = v := by simp [gR_sR, upR_eq]
theorem rR_n {f : Nat → Nat} {v : Nat} (h : ¬ j = k) : gR (sRf σ a b c (upR f k v)) a b c j = f j := by simp [gR_sR, upR_eq, h]
end RD
theorem ald_lit {β : Type} {n k : Nat} {f : Nat → β} (h : k < n) (hn : n < 2147483648) : ald n f (OfNat.ofNat k : Int32) = some (f k) := ald_nI h hn
theorem ald_0 {β : Type} {n : Nat} {f : Nat → β} (h : 0 < n) (hn : n < 2147483648) : ald n f 0 = some (f 0) := ald_nI h hn
theorem ix_9 (p : Nat) : (9 : Int32) + nI p = nI (9 + p) := nI_add 9 p
theorem ix_15 (p : Nat) : (15 : Int32) + nI p = nI (15 + p) := nI_add 15 p
theorem ix_21 (p : Nat) : (21 : Int32) + nI p = nI (21 + p) := nI_add 21 p
theorem ix_29 (p : Nat) : (29 : Int32) + nI p = nI (29 + p) := nI_add 29 p
theorem ix_37 (p : Nat) : (37 : Int32) + nI p = nI (37 + p) := nI_add 37 p
theorem ix_45 (p : Nat) : (45 : Int32) + nI p = nI (45 + p) := nI_add 45 p
theorem ix_53 (p : Nat) : (53 : Int32) + nI p = nI (53 + p) := nI_add 53 p
theorem ix_59 (p : Nat) : (59 : Int32) + nI p = nI (59 + p) := nI_add 59 p
theorem ix_65 (p : Nat) : (65 : Int32) + nI p = nI (65 + p) := nI_add 65 p
theorem ix_71 (p : Nat) : (71 : Int32) + nI p = nI (71 + p) := nI_add 71 p
theorem ix_77 (p : Nat) : (77 : Int32) + nI p = nI (77 + p) := nI_add 77 p
theorem ix_83 (p : Nat) : (83 : Int32) + nI p = nI (83 + p) := nI_add 83 p
theorem ix_325 (p : Nat) : (325 : Int32) + nI p = nI (325 + p) := nI_add 325 p
theorem al_0 {β : Type} {f : Nat → β} : ald 3000 f (0 : Int32) = some (f 0) := ald_nI (k := 0) (by omega) (by omega)
theorem al_1 {β : Type} {f : Nat → β} : ald 3000 f (1 : Int32) = some (f 1) := ald_nI (k := 1) (by omega) (by omega)
theorem al_2 {β : Type} {f : Nat → β} : ald 3000 f (2 : Int32) = some (f 2) := ald_nI (k := 2) (by omega) (by omega)
theorem al_3 {β : Type} {f : Nat → β} : ald 3000 f (3 : Int32) = some (f 3) := ald_nI (k := 3) (by omega) (by omega)
theorem al_4 {β : Type} {f : Nat → β} : ald 3000 f (4 : Int32) = some (f 4) := ald_nI (k := 4) (by omega) (by omega)
theorem al_5 {β : Type} {f : Nat → β} : ald 3000 f (5 : Int32) = some (f 5) := ald_nI (k := 5) (by omega) (by omega)
theorem al_6 {β : Type} {f : Nat → β} : ald 3000 f (6 : Int32) = some (f 6) := ald_nI (k := 6) (by omega) (by omega)
theorem al_7 {β : Type} {f : Nat → β} : ald 3000 f (7 : Int32) = some (f 7) := ald_nI (k := 7) (by omega) (by omega)
theorem al_8 {β : Type} {f : Nat → β} : ald 3000 f (8 : Int32) = some (f 8) := ald_nI (k := 8) (by omega) (by omega)
theorem FC.sI {S : List Nat} {σ σ1 : Mem} {a b c : Nat} {f} (h : FC S σ σ1) (ha : a ∈ S) : FC S σ (sIf σ1 a b c f) := h.t (FC.I ha)
theorem FC.sL {S : List Nat} {σ σ1 : Mem} {a b c : Nat} {f} (h : FC S σ σ1) (ha : a ∈ S) : FC S σ (sLf σ1 a b c f) := h.t (FC.L ha)
theorem FC.sB {S : List Nat} {σ σ1 : Mem} {a b c : Nat} {f} (h : FC S σ σ1) (ha : a ∈ S) : FC S σ (sBf σ1 a b c f) := h.t (FC.B ha)
theorem FM.sI {I L P : List Nat} {σ σ1 : Mem} {k : Nat} {v : Int32} (h : FM I L P σ σ1) (hk : k ∈ I) : FM I L P σ (sI σ1 12 0 0 k v) := h.t (FM.I hk)
theorem FM.sL {I L P : List Nat} {σ σ1 : Mem} {k : Nat} {v : Int64} (h : FM I L P σ σ1) (hk : k ∈ L) : FM I L P σ (sL σ1 12 0 0 k v) := h.t (FM.L hk)
theorem FM.sP {I L P : List Nat} {σ σ1 : Mem} {p : Nat} {f} (h : FM I L P σ σ1) (hp : p ∈ P) (h0 : p ≠ 0) : FM I L P σ (sIf σ1 12 0 p f) := h.t (FM.PI hp h0)
theorem FM.sPL {I L P : List Nat} {σ σ1 : Mem} {p : Nat} {f} (h : FM I L P σ σ1) (hp : p ∈ P) (h0 : p ≠ 0) : FM I L P σ (sLf σ1 12 0 p f) := h.t (FM.PL hp h0)
/-! the model's side -/
section MS
variable {σ : Mem} {p s : Nat} {puff spit x y : Int32}
theorem m_fit (hp : p < 8) : F12_fitOf σ (nI p) = some (sFit (gI σ 12 0 5) p) := by
  unfold F12_fitOf
  simp (disch := omega) only [ix_9, ix_15, ix_21, ix_29, ix_37, ix_45, ix_53, ix_59, ix_65, ix_71, ix_77, ix_83, ix_325, al_0, al_1, al_2, al_3, al_4, al_5, al_6, al_7, al_8, ald_nI, Option.bind_some, bnd_eq, bd_some, sFit]
theorem m_pace (o : TentOk (gI σ 12 0 5)) (hp : p < nat (gI σ 12 0 5 5)) (h0 : 0 ≤ (sFit (gI σ 12 0 5) p).toInt) (hs : 0 ≤ spit.toInt ∧ spit.toInt ≤ 20) : F12_paceOf σ (nI p) puff spit = some (sPace (gI σ 12 0 5) p puff spit) := by
  have h8 := ok_n5 o
  have hd := den_int o hp h0 hs
  have hn : ¬ (gI σ 12 0 5 (29 + p) + sFit (gI σ 12 0 5) p + spit = 0) := fun e => by rw [e] at hd; have : (0 : Int32).toInt = 0 := rfl; omega
  unfold F12_paceOf
  simp (disch := omega) only [ix_9, ix_15, ix_21, ix_29, ix_37, ix_45, ix_53, ix_59, ix_65, ix_71, ix_77, ix_83, ix_325, al_0, al_1, al_2, al_3, al_4, al_5, al_6, al_7, al_8, ald_nI, Option.bind_some, bnd_eq, bd_some, m_fit, hn, if_false, bnd_eq]
  unfold sPace
  split <;> rfl
theorem m_fate (o : TentOk (gI σ 12 0 5)) (hp : p < nat (gI σ 12 0 5 5)) (hs : 0 ≤ spit.toInt ∧ spit.toInt ≤ 20) : F12_fateOf σ (nI p) puff spit = some (sFate (gI σ 12 0 5) p puff spit) := by
  have h8 := ok_n5 o
  unfold F12_fateOf
  simp (disch := omega) only [ix_9, ix_15, ix_21, ix_29, ix_37, ix_45, ix_53, ix_59, ix_65, ix_71, ix_77, ix_83, ix_325, al_0, al_1, al_2, al_3, al_4, al_5, al_6, al_7, al_8, ald_nI, Option.bind_some, bnd_eq, bd_some, m_fit]
  unfold sFate
  by_cases h0 : 0 ≤ sFit (gI σ 12 0 5) p
  · simp only [h0, if_true]
    have hc := m_pace (puff := puff) o hp (i32_le.mp h0) hs
    by_cases hw : gI σ 12 0 5 (45 + p) = 1
    · simp only [hw, if_true, F12_fateOf_p30, hc, Option.bind_some]
      split
      · split <;> rfl
      · rfl
    · simp only [hw, if_false, F12_fateOf_p30, hc, Option.bind_some]
      split
      · split <;> rfl
      · rfl
  · simp only [h0, if_false]
theorem sFate_0 {c : Nat → Int32} (h : sFate c p puff spit = 0) : 0 ≤ sFit c p ∧ 24 ≤ sPace c p puff spit ∧ spit < 8 ∧ (c (45 + p) = 1 → spit < 3) := by
  unfold sFate at h
  by_cases h0 : 0 ≤ sFit c p
  · rw [if_pos h0] at h
    by_cases h1 : spit < (if c (45 + p) = 1 then 3 else 8)
    · rw [if_pos h1] at h
      by_cases h2 : 24 ≤ sPace c p puff spit
      · refine ⟨h0, h2, ?_, fun e => ?_⟩
        · by_cases e : c (45 + p) = 1
          · rw [if_pos e] at h1
            rw [i32_lt] at h1 ⊢; have : (3 : Int32).toInt = 3 := rfl; have : (8 : Int32).toInt = 8 := rfl; omega
          · rw [if_neg e] at h1; exact h1
        · rw [if_pos e] at h1; exact h1
      · rw [if_neg h2] at h; exact absurd h (by decide)
    · rw [if_neg h1] at h; exact absurd h (by decide)
  · rw [if_neg h0] at h; exact absurd h (by decide)
/-- what flies: the numbers of it -/
def Fly (c : Nat → Int32) (p : Nat) (puff spit : Int32) (t d a o : Int32) : Prop := t = sTime c (sPace c p puff spit) ∧ d = sDrop t ∧ a = sAside c t ∧ o = sOff c p t
theorem m_flies_p (hp : p < 8) (q : Int32) : ∃ σ', F12_flies_p102 σ (nI p) q = some (true, σ') ∧ FM [30, 31] [] [] σ σ' ∧ gI σ' 12 0 0 30 = q ∧ gI σ' 12 0 0 31 = sOff (gI σ 12 0 5) p (gI σ 12 0 0 28) := by
  unfold F12_flies_p102
  have f5 : ∀ (σ1 : Mem) (f : Nat → Int32), gI (sIf σ1 12 0 0 f) 12 0 5 = gI σ1 12 0 5 := fun σ1 f => rI_c (by decide)
  simp (disch := omega) only [ix_9, ix_15, ix_21, ix_29, ix_37, ix_45, ix_53, ix_59, ix_65, ix_71, ix_77, ix_83, ix_325, al_0, al_1, al_2, al_3, al_4, al_5, al_6, al_7, al_8, ald_nI, Option.bind_some, bnd_eq, bd_some, f5, m_fit]
  by_cases hr : sFit (gI σ 12 0 5) p ≤ 2
  · simp only [hr, if_true]
    refine ⟨_, rfl, ?_, ?_, ?_⟩
    · repeat' first | exact FM.z | refine FM.sI ?_ (by decide)
    · simp (disch := decide) only [rI_s, rI_n]
    · simp (disch := decide) only [rI_s, rI_n, sOff, hr, if_true]
  · simp only [hr, if_false]
    refine ⟨_, rfl, ?_, ?_, ?_⟩
    · repeat' first | exact FM.z | refine FM.sI ?_ (by decide)
    · simp (disch := decide) only [rI_s, rI_n]
    · simp (disch := decide) only [rI_s, rI_n, sOff, hr, if_false]
theorem m_flies (o : TentOk (gI σ 12 0 5)) (hp : p < nat (gI σ 12 0 5 5)) (hs : 0 ≤ spit.toInt ∧ spit.toInt ≤ 20) :
    ∃ σ', F12_flies σ (nI p) puff spit = some (decide (sFate (gI σ 12 0 5) p puff spit = 0), σ') ∧ FM [28, 29, 30, 31] [] [] σ σ' ∧
      (sFate (gI σ 12 0 5) p puff spit = 0 → Fly (gI σ 12 0 5) p puff spit (gI σ' 12 0 0 28) (gI σ' 12 0 0 29) (gI σ' 12 0 0 30) (gI σ' 12 0 0 31)) := by
  have h8 := ok_n5 o
  by_cases hf : sFate (gI σ 12 0 5) p puff spit = 0
  · suffices h : ∃ σ', F12_flies σ (nI p) puff spit = some (true, σ') ∧ FM [28, 29, 30, 31] [] [] σ σ' ∧ Fly (gI σ 12 0 5) p puff spit (gI σ' 12 0 0 28) (gI σ' 12 0 0 29) (gI σ' 12 0 0 30) (gI σ' 12 0 0 31) by
      obtain ⟨σ', h1, h2, h3⟩ := h
      exact ⟨σ', by rw [h1]; simp [hf], h2, fun _ => h3⟩
    obtain ⟨g1, g2, -⟩ := sFate_0 hf
    have hpn : ¬ sPace (gI σ 12 0 5) p puff spit = 0 := fun e => by rw [e] at g2; exact absurd g2 (by decide)
    have f5 : ∀ (σ1 : Mem) (f : Nat → Int32), gI (sIf σ1 12 0 0 f) 12 0 5 = gI σ1 12 0 5 := fun σ1 f => rI_c (by decide)
    have key : ∀ (s7 : Mem) (q : Int32), FM [28, 29, 30, 31] [] [] σ s7 → gI s7 12 0 0 28 = sTime (gI σ 12 0 5) (sPace (gI σ 12 0 5) p puff spit) → gI s7 12 0 0 29 = sDrop (gI s7 12 0 0 28) → q = sAside (gI σ 12 0 5) (gI s7 12 0 0 28) →
        ∃ σ', F12_flies_p102 s7 (nI p) q = some (true, σ') ∧ FM [28, 29, 30, 31] [] [] σ σ' ∧ Fly (gI σ 12 0 5) p puff spit (gI σ' 12 0 0 28) (gI σ' 12 0 0 29) (gI σ' 12 0 0 30) (gI σ' 12 0 0 31) := by
      intro s7 q k1 k2 k3 k4
      obtain ⟨σ', e1, e2, e3, e4⟩ := m_flies_p (σ := s7) (p := p) (by omega) q
      have w28 : gI σ' 12 0 0 28 = gI s7 12 0 0 28 := e2.1 28 (by decide)
      have w29 : gI σ' 12 0 0 29 = gI s7 12 0 0 29 := e2.1 29 (by decide)
      refine ⟨σ', e1, k1.t (e2.m (by decide) (by decide) (by decide)), ?_, ?_, ?_, ?_⟩
      · rw [w28, k2]
      · rw [w29, k3, w28]
      · rw [e3, k4, w28]
      · rw [e4, w28, k1.c (by decide)]
    unfold F12_flies
    simp (disch := omega) only [m_fate o hp hs, m_pace o hp (i32_le.mp g1) hs, ix_9, ix_15, ix_21, ix_29, ix_37, ix_45, ix_53, ix_59, ix_65, ix_71, ix_77, ix_83, ix_325, al_0, al_1, al_2, al_3, al_4, al_5, al_6, al_7, al_8, ald_nI, Option.bind_some, bnd_eq, bd_some, hf, hpn, if_true, if_false, f5]
    by_cases hw : (0 : Int32) ≤ gI σ 12 0 5 3
    · rw [if_pos hw]
      refine key _ _ ?_ ?_ ?_ ?_
      · repeat' first | exact FM.z | refine FM.sI ?_ (by decide)
      · simp (disch := decide) only [rI_s, rI_n]; rfl
      · simp (disch := decide) only [rI_s, rI_n]; rfl
      · simp (disch := decide) only [rI_s, rI_n, sAside]; rw [if_pos hw]
    · rw [if_neg hw]
      refine key _ _ ?_ ?_ ?_ ?_
      · repeat' first | exact FM.z | refine FM.sI ?_ (by decide)
      · simp (disch := decide) only [rI_s, rI_n]; rfl
      · simp (disch := decide) only [rI_s, rI_n]; rfl
      · simp (disch := decide) only [rI_s, rI_n, sAside]; rw [if_neg hw]
  · refine ⟨σ, ?_, FM.z, fun h => absurd h hf⟩
    unfold F12_flies
    simp only [m_fate o hp hs, Option.bind_some, hf, if_false, decide_false]
theorem m_hand (o : TentOk (gI σ 12 0 5)) (hs : s < nat (gI σ 12 0 5 6)) (beat : Int32) : F12_handOf σ (nI s) beat = some (sHand (gI σ 12 0 5) s beat) := by
  have h6 := ok_n6 o
  unfold F12_handOf sHand
  simp (disch := omega) only [ix_9, ix_15, ix_21, ix_29, ix_37, ix_45, ix_53, ix_59, ix_65, ix_71, ix_77, ix_83, ix_325, al_0, al_1, al_2, al_3, al_4, al_5, al_6, al_7, al_8, ald_nI, Option.bind_some, bnd_eq, bd_some]
  split
  · rfl
  split
  · rfl
  split <;> rfl
theorem m_ring_L (x y : Int32) : ∀ k n, k ≤ 6 → k + 1 < n → F12_ringOf_L9 x y n σ (nI k - 1) = some (sRing (gI σ 12 0 5) (x * x + y * y) k) := by
  intro k
  induction k with
  | zero =>
    intro n _ hn
    obtain ⟨m, rfl⟩ : ∃ m, n = m + 1 := ⟨n - 1, by omega⟩
    simp only [F12_ringOf_L9.eq_2]
    rw [if_pos (by decide)]; rfl
  | succ k ih =>
    intro n hk hn
    obtain ⟨m, rfl⟩ : ∃ m, n = m + 1 := ⟨n - 1, by omega⟩
    have e1 : nI (k + 1) - 1 = nI k := nI_pred k
    simp only [F12_ringOf_L9.eq_2]
    rw [e1, if_neg (nI_pos (by omega))]
    simp (disch := omega) only [ix_9, ix_15, ix_21, ix_29, ix_37, ix_45, ix_53, ix_59, ix_65, ix_71, ix_77, ix_83, ix_325, al_0, al_1, al_2, al_3, al_4, al_5, al_6, al_7, al_8, ald_nI, Option.bind_some, bnd_eq, bd_some, sRing]
    split
    · rw [show nI k + (-1) = nI k - 1 from by rw [Int32.sub_eq_add_neg]]
      exact ih m (by omega) (by omega)
    · rfl
theorem m_ring (o : TentOk (gI σ 12 0 5)) (x y : Int32) : F12_ringOf σ x y = some (sRingAt (gI σ 12 0 5) x y) := by
  have h4 := ok_n4 o
  have e4 := ok_i4 o
  unfold F12_ringOf
  simp (disch := omega) only [ix_9, ix_15, ix_21, ix_29, ix_37, ix_45, ix_53, ix_59, ix_65, ix_71, ix_77, ix_83, ix_325, al_0, al_1, al_2, al_3, al_4, al_5, al_6, al_7, al_8, ald_nI, Option.bind_some, bnd_eq, bd_some]
  rw [e4, m_ring_L x y _ _ h4 (fuelK_lt (by omega)), sRingAt]
theorem m_pts (o : TentOk (gI σ 12 0 5)) (x y : Int32) : F12_pointsOf σ x y = some (sPts (gI σ 12 0 5) x y) := by
  have h4 := ok_n4 o
  unfold F12_pointsOf sPts
  rw [m_ring o, Option.bind_some]
  rcases sRing_lt (c := gI σ 12 0 5) (q := x * x + y * y) (nat (gI σ 12 0 5 4)) with h1 | ⟨k, h1, h2⟩
  · rw [sRingAt, h1, if_neg (by decide), if_pos rfl]
  · rw [sRingAt, h2, if_pos (nI_pos' (by omega)), if_neg (fun e => by have := nI_pos' (n := k) (by omega); rw [e] at this; exact absurd this (by decide)), nat_nI (by omega)]
    simp (disch := omega) only [ix_9, ix_15, ix_21, ix_29, ix_37, ix_45, ix_53, ix_59, ix_65, ix_71, ix_77, ix_83, ix_325, al_0, al_1, al_2, al_3, al_4, al_5, al_6, al_7, al_8, ald_nI, Option.bind_some, bnd_eq, bd_some]
end MS
/-! the class's side -/
section CS
variable {σ : Mem} {t t0 p s : Nat} {c : Nat → Int32} {puff spit x y : Int32}
theorem c_fit (ht : TentT (gI σ 9 t) c) (o : TentOk c) (hp : p < nat (c 5)) : F9_fitOf σ t (nI p) = some (sFit c p) := by
  have h5 := ok_n5 o
  unfold F9_fitOf
  simp (disch := omega) only [ald_nI, Option.bind_some]
  rw [ht.1.1, (ht.2.2.1 p hp).1]; rfl
theorem c_rattles (ht : TentT (gI σ 9 t) c) (o : TentOk c) (hp : p < nat (c 5)) : F9_rattles σ t (nI p) = some (decide (¬ sFit c p ≤ 2)) := by
  unfold F9_rattles
  rw [c_fit ht o hp, Option.bind_some]
  have e3 : (3 : Int32).toInt = 3 := rfl
  have e2 : (2 : Int32).toInt = 2 := rfl
  by_cases h : sFit c p < 3
  · rw [if_pos h]
    have : sFit c p ≤ 2 := by rw [i32_le]; have := i32_lt.mp h; omega
    simp [this]
  · rw [if_neg h]
    have : ¬ sFit c p ≤ 2 := fun e => h (by rw [i32_lt]; have := i32_le.mp e; omega)
    simp [this]
theorem c_hand (ht : TentT (gI σ 9 t) c) (o : TentOk c) (hs : s < nat (c 6)) (beat : Int32) : F9_shakeOn σ t (nI s) beat = some (sHand c s beat) := by
  have h6 := ok_n6 o
  unfold F9_shakeOn sHand
  simp (disch := omega) only [ald_nI, Option.bind_some]
  rw [(ht.2.2.2 s hs).2.1]
  split
  · rfl
  split
  · rfl
  split
  · congr 1
    unfold iMin
    split
    · rename_i h
      rw [if_neg (fun e => by rw [i32_lt] at h e; omega)]
    · rename_i h
      split
      · rfl
      · rename_i h2
        rw [i32_lt] at h h2
        rw [i32_eq]; omega
  · rfl
theorem c_ring_L (ht : TentT (gI σ 9 t) c) (o : TentOk c) (q : Int32) : ∀ k n i, i + k = nat (c 4) → k < n → (∀ j, j < i → q ≤ c (9 + j) * c (9 + j)) → F9_lastRing_L14 σ t q n (if i = 0 then -1 else nI (i - 1)) (nI i) = some (sRing c q (nat (c 4))) := by
  have h4 := ok_n4 o
  have e4 := ok_i4 o
  have base : ∀ i, i ≤ nat (c 4) → (∀ j, j < i → q ≤ c (9 + j) * c (9 + j)) → sRing c q i = (if i = 0 then -1 else nI (i - 1)) := by
    intro i _ hj
    cases i with
    | zero => rfl
    | succ i => rw [sRing, if_neg (Int32.not_lt.mpr (hj i (by omega)))]; rfl
  intro k
  induction k with
  | zero =>
    intro n i hi hn hj
    obtain ⟨m, rfl⟩ : ∃ m, n = m + 1 := ⟨n - 1, by omega⟩
    simp only [F9_lastRing_L14.eq_2]
    rw [ht.1.2.2.2.1, if_pos (by rw [e4, show i = nat (c 4) by omega]; exact Int32.le_refl _), ← base i (by omega) hj, show i = nat (c 4) by omega]
  | succ k ih =>
    intro n i hi hn hj
    obtain ⟨m, rfl⟩ : ∃ m, n = m + 1 := ⟨n - 1, by omega⟩
    simp only [F9_lastRing_L14.eq_2]
    rw [ht.1.2.2.2.1, if_neg (by rw [e4, nI_leI (by omega) (by omega)]; omega)]
    simp (disch := omega) only [ald_nI, Option.bind_some]
    rw [(ht.2.1 i (by omega)).1]
    by_cases hq : c (9 + i) * c (9 + i) < q
    · rw [if_pos hq, ← base i (by omega) hj]
      refine congrArg some (sRing_skip _ (by omega) (fun j h1 h2 => ?_)).symm
      -- what is told behind reaches less
      have mono : ∀ d, i + d < nat (c 4) → (c (9 + (i + d))).toInt ≤ (c (9 + i)).toInt := by
        intro d
        induction d with
        | zero => intro _; exact Int.le_refl _
        | succ d ihd =>
          intro hd
          obtain ⟨-, -, -, -, -, -, -, -, h9, -⟩ := o
          have := i32_lt.mp (h9 (i + d) (by omega)).1
          have h3 := ihd (by omega)
          have e : i + (d + 1) = i + d + 1 := by omega
          rw [e]; omega
      have hm := mono (j - i) (by omega)
      rw [show i + (j - i) = j by omega] at hm
      obtain ⟨-, -, -, -, -, -, -, h8, -⟩ := o
      have b1 := b32 (h8 i (by omega)).1
      have b2 := b32 (h8 j (by omega)).1
      have e1 : (1 : Int32).toInt = 1 := rfl
      have e60 : (60 : Int32).toInt = 60 := rfl
      have m1 : (c (9 + j)).toInt * (c (9 + j)).toInt ≤ (c (9 + i)).toInt * (c (9 + i)).toInt := Int.mul_le_mul hm hm (by omega) (by omega)
      have m2 : (c (9 + i)).toInt * (c (9 + i)).toInt ≤ 60 * 60 := Int.mul_le_mul (by omega) (by omega) (by omega) (by omega)
      have m3 : 0 ≤ (c (9 + j)).toInt * (c (9 + j)).toInt := Int.mul_nonneg (by omega) (by omega)
      have p1 : (c (9 + j) * c (9 + j)).toInt = (c (9 + j)).toInt * (c (9 + j)).toInt := i32_mul (by omega) (by omega)
      have p2 : (c (9 + i) * c (9 + i)).toInt = (c (9 + i)).toInt * (c (9 + i)).toInt := i32_mul (by omega) (by omega)
      rw [i32_lt] at hq ⊢
      omega
    · rw [if_neg hq, nI_1]
      have := ih m (i + 1) (by omega) (by omega) (fun j hj2 => by
        by_cases e : j = i
        · rw [e]; exact Int32.not_lt.mp hq
        · exact hj j (by omega))
      rw [if_neg (by omega), show i + 1 - 1 = i by omega] at this
      exact this
theorem c_ring (ht : TentT (gI σ 9 t) c) (o : TentOk c) (x y : Int32) : F9_lastRing σ t x y = some (sRingAt c x y) := by
  unfold F9_lastRing
  rw [bnd_eq]
  have := c_ring_L (σ := σ) ht o (x * x + y * y) (nat (c 4)) fuelK 0 (by omega) (fuelK_lt (by have := ok_n4 o; omega)) (fun j h => absurd h (by omega))
  rw [if_pos rfl] at this
  rw [show (0 : Int32) = nI 0 from rfl, this]; rfl
theorem c_pts (ht : TentT (gI σ 9 t) c) (o : TentOk c) (x y : Int32) : F9_worthAt σ t x y = some (sPts c x y) := by
  have h4 := ok_n4 o
  unfold F9_worthAt sPts
  rw [c_ring ht o, Option.bind_some]
  rcases sRing_lt (c := c) (q := x * x + y * y) (nat (c 4)) with h1 | ⟨k, h1, h2⟩
  · rw [sRingAt, h1, if_pos rfl, if_pos rfl]
  · have hk : ¬ nI k = -1 := fun e => by have := nI_pos' (n := k) (by omega); rw [e] at this; exact absurd this (by decide)
    rw [sRingAt, h2, if_neg hk, if_neg hk, nat_nI (by omega)]
    simp (disch := omega) only [ald_nI, Option.bind_some]
    rw [(ht.2.1 k h1).2]
/-- the numbers of the shot t0, as it is to be reckoned -/
def ShotIs (σ : Mem) (t0 p : Nat) (puff spit inches : Int32) : Prop := gI σ 6 t0 0 1 = nI p ∧ gI σ 6 t0 0 2 = puff ∧ gI σ 6 t0 0 6 = spit ∧ gI σ 6 t0 0 7 = inches
/-- what reckon finds -/
def Reck (σ : Mem) (t0 : Nat) (c : Nat → Int32) (p : Nat) (puff spit : Int32) : Prop := gI σ 6 t0 0 8 = sFate c p puff spit ∧
  (sFate c p puff spit = 0 → gI σ 6 t0 0 9 = sPace c p puff spit ∧ Fly c p puff spit (gI σ 6 t0 0 10) (gI σ 6 t0 0 11) (gI σ 6 t0 0 12) (gI σ 6 t0 0 13))
theorem c_fly (ht : TentT (gI σ 9 t) c) (o : TentOk c) (hp : p < nat (c 5)) (e1 : gI σ 6 t0 0 1 = nI p) (e9 : gI σ 6 t0 0 9 = sPace c p puff spit) (h24 : 24 ≤ sPace c p puff spit) :
    ∃ σ', F6_fly σ t0 t = some ((), σ') ∧ FC [6] σ σ' ∧ (∀ k, k < 10 → gI σ' 6 t0 0 k = gI σ 6 t0 0 k) ∧ Fly c p puff spit (gI σ' 6 t0 0 10) (gI σ' 6 t0 0 11) (gI σ' 6 t0 0 12) (gI σ' 6 t0 0 13) := by
  have h5 := ok_n5 o
  have hp0 : (0 : Int32) < sPace c p puff spit := by rw [i32_lt]; have := i32_le.mp h24; have : (24 : Int32).toInt = 24 := rfl; have : (0 : Int32).toInt = 0 := rfl; omega
  have hpn : ¬ sPace c p puff spit = 0 := fun e => by rw [e] at h24; exact absurd h24 (by decide)
  have f9 : ∀ (σ1 : Mem) (f : Nat → Int32), gI (sIf σ1 6 t0 0 f) 9 t = gI σ1 9 t := fun σ1 f => by funext b'; exact rI_a (by decide)
  have f9' : ∀ (σ1 : Mem) (f : Nat → Int32) (b' : Nat), gI (sIf σ1 6 t0 0 f) 9 t b' = gI σ1 9 t b' := fun σ1 f b' => rI_a (by decide)
  have key : ∀ (s : Mem) (q : Int32), FC [6] σ s → (∀ k, k < 10 → gI s 6 t0 0 k = gI σ 6 t0 0 k) → gI s 6 t0 0 10 = sTime c (sPace c p puff spit) → gI s 6 t0 0 11 = sDrop (gI s 6 t0 0 10) → q = sAside c (gI s 6 t0 0 10) →
      ∃ σ', F6_fly_p78 s t0 t t0 q = some ((), σ') ∧ FC [6] σ σ' ∧ (∀ k, k < 10 → gI σ' 6 t0 0 k = gI σ 6 t0 0 k) ∧ Fly c p puff spit (gI σ' 6 t0 0 10) (gI σ' 6 t0 0 11) (gI σ' 6 t0 0 12) (gI σ' 6 t0 0 13) := by
    intro s q k1 k2 k3 k4 k5
    have hts : ∀ f, TentT (gI (sIf s 6 t0 0 f) 9 t) c := fun f => by
      have : gI (sIf s 6 t0 0 f) 9 t = gI σ 9 t := by funext b'; rw [f9', k1.fI 9 t b' (by decide)]
      rw [this]; exact ht
    have g1 : gI s 6 t0 0 1 = nI p := by rw [k2 1 (by decide), e1]
    have g6 : gI s 9 t 6 p = c (37 + p) := by rw [k1.fI 9 t 6 (by decide)]; exact (ht.2.2.1 p hp).2.2.1
    unfold F6_fly_p78
    simp (disch := omega) only [bnd_eq, f9', rI_n, g1, ald_nI, Option.bind_some, g6, c_rattles (hts _) o hp]
    by_cases hr : sFit c p ≤ 2
    · simp only [hr, not_true_eq_false, decide_false, Bool.false_eq_true, if_false]
      refine ⟨_, rfl, ?_, fun k hk => ?_, ?_, ?_, ?_, ?_⟩
      · exact FC.sI (FC.sI k1 (by decide)) (by decide)
      · rw [← k2 k hk]; simp (disch := omega) only [rI_n]
      · simp (disch := decide) only [rI_n, k3]
      · simp (disch := decide) only [rI_n, k4]
      · simp (disch := decide) only [rI_n, rI_s, k5]
      · simp (disch := decide) only [rI_n, rI_s, sOff, hr, if_true]
    · simp only [hr, not_false_eq_true, decide_true, if_true]
      refine ⟨_, rfl, ?_, fun k hk => ?_, ?_, ?_, ?_, ?_⟩
      · exact FC.sI (FC.sI k1 (by decide)) (by decide)
      · rw [← k2 k hk]; simp (disch := omega) only [rI_n]
      · simp (disch := decide) only [rI_n, k3]
      · simp (disch := decide) only [rI_n, k4]
      · simp (disch := decide) only [rI_n, rI_s, k5]
      · simp (disch := decide) only [rI_n, rI_s, sOff, hr, if_false]
  unfold F6_fly
  simp (disch := omega) only [e9, hp0, hpn, if_true, if_false, bnd_eq, f9', ht.1.2.1, ht.1.2.2.1]
  have fin : ∀ v w : Int32, ∀ k, k < 10 → gI (sI (sI σ 6 t0 0 10 v) 6 t0 0 11 w) 6 t0 0 k = gI σ 6 t0 0 k := fun v w k hk => by simp (disch := omega) only [rI_n]
  by_cases hw : (0 : Int32) ≤ c 3
  · rw [if_pos hw]
    refine key _ _ (FC.sI (FC.sI FC.z (by decide)) (by decide)) (fin _ _) ?_ ?_ ?_
    · simp (disch := decide) only [rI_s, rI_n, sTime]; rw [Int32.mul_comm (c 2) 240]
    · simp (disch := decide) only [rI_s, rI_n]; rfl
    · simp (disch := decide) only [rI_s, rI_n, sAside]; rw [if_pos hw]
  · rw [if_neg hw]
    refine key _ _ (FC.sI (FC.sI FC.z (by decide)) (by decide)) (fin _ _) ?_ ?_ ?_
    · simp (disch := decide) only [rI_s, rI_n, sTime]; rw [Int32.mul_comm (c 2) 240]
    · simp (disch := decide) only [rI_s, rI_n]; rfl
    · simp (disch := decide) only [rI_s, rI_n, sAside]; rw [if_neg hw]
end CS
