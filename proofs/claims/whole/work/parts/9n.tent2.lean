/-! PURE. tent, whole. -/
section TNV
variable {σC σM σ τ σ1 τ1 σ0 τ0 : Mem} {L u r s e : Nat} {A RI : VI} {AL : VL} {c c' : Nat → Int32} {w w' : Nat → Int64} {C : Nat → Int32} {W : Nat → Int64} {B : Nat → Bool} {N : Int32}
theorem TentOk.cel (o : TentOk c) (h : ∀ j, j < 77 → c' j = c j) : TentOk c' := by
  have n4 := ok_n4 o
  have n5 := ok_n5 o
  have n6 := ok_n6 o
  obtain ⟨o0, o1, o2, o3, o4, o5, o6, o7, o8, o9, o10⟩ := o
  have e0 := h 0 (by omega)
  have e1 := h 1 (by omega)
  have e2 := h 2 (by omega)
  have e3 := h 3 (by omega)
  have e4 := h 4 (by omega)
  have e5 := h 5 (by omega)
  have e6 := h 6 (by omega)
  refine ⟨by rw [e0]; exact o0, by rw [e1]; exact o1, by rw [e2]; exact o2, by rw [e3]; exact o3, by rw [e4]; exact o4, by rw [e5]; exact o5, by rw [e6]; exact o6, fun k hk => ?_, fun k hk => ?_, fun k hk => ?_, fun k hk => ?_⟩
  · rw [e4] at hk; rw [h _ (by omega), h _ (by omega)]; exact o7 k hk
  · rw [e4] at hk; rw [h _ (by omega), h _ (by omega), h _ (by omega), h _ (by omega)]; exact o8 k hk
  · rw [e5] at hk; rw [h _ (by omega), h _ (by omega), h _ (by omega), h _ (by omega)]; exact o9 k hk
  · rw [e6] at hk; rw [h _ (by omega), h _ (by omega), h _ (by omega), h _ (by omega)]; exact o10 k hk
theorem TentR.cel {ti : VI} {tl : VL} (ht : TentR ti tl c w) (o : TentOk c) (h : ∀ j, j < 77 → c' j = c j) (hw : ∀ j, j < 14 → w' j = w j) : TentR ti tl c' w' := by
  have n4 := ok_n4 o
  have n5 := ok_n5 o
  have n6 := ok_n6 o
  obtain ⟨t0, t1, t2, t3, t4, t5, t6, t7, t8, t9⟩ := ht
  have e4 := h 4 (by omega)
  have e5 := h 5 (by omega)
  have e6 := h 6 (by omega)
  refine ⟨by rw [h 0 (by omega)]; exact t0, by rw [h 1 (by omega)]; exact t1, by rw [h 2 (by omega)]; exact t2, by rw [h 3 (by omega)]; exact t3, by rw [e4]; exact t4, by rw [e5]; exact t5, by rw [e6]; exact t6, fun k hk => ?_, fun k hk => ?_, fun k hk => ?_⟩
  · rw [e4] at hk; rw [h _ (by omega), h _ (by omega)]; exact t7 k hk
  · rw [e5] at hk; rw [h _ (by omega), h _ (by omega), h _ (by omega), h _ (by omega), hw _ (by omega)]; exact t8 k hk
  · rw [e6] at hk; rw [h _ (by omega), h _ (by omega), h _ (by omega), h _ (by omega), hw _ (by omega)]; exact t9 k hk
/-- main block and tape changed, all else as it was -/
theorem RelP.txt (h : RelP σC σM) (f : FC [5, 7, 8, 9, 11] σC σ1) (h12 : gI σ1 11 0 0 12 = gI σC 11 0 0 12) (l8 : gL σ1 8 0 2 = gL σC 8 0 2)
    (h9 : ∀ b, 2 ≤ b → gI σ1 9 b = gI σC 9 b ∧ gL σ1 9 b = gL σC 9 b) (h5 : ∀ b, 2 ≤ b → gI σ1 5 b = gI σC 5 b ∧ gB σ1 5 b = gB σC 5 b) (h7 : ∀ b, 2 ≤ b → TY σ1 b = TY σC b)
    (m : gI τ1 12 0 1 = gI σM 12 0 1 ∧ gI τ1 12 0 2 = gI σM 12 0 2 ∧ gL τ1 12 0 3 = gL σM 12 0 3 ∧ gI τ1 12 0 12 = gI σM 12 0 12) (m23 : gI τ1 12 0 0 23 = gI σM 12 0 0 23) (m47 : gB τ1 12 0 0 47 = gB σM 12 0 0 47)
    (mc : ∀ j, 600 ≤ j → j < 2400 → gI τ1 12 0 5 j = gI σM 12 0 5 j) (mw : ∀ j, 14 ≤ j → j < 56 → gL τ1 12 0 7 j = gL σM 12 0 7 j)
    (t1 : gI σ1 8 0 0 1 = 0) (t2 : gI τ1 12 0 0 8 = 0) (t3 : gI σ1 8 0 0 2 = gI τ1 12 0 0 10) (t4 : gI σ1 8 0 0 3 = gI τ1 12 0 0 11)
    (rf : (gR σ1 11 0 0 5 < 2 ∧ gR σ1 11 0 0 6 = 1 - gR σ1 11 0 0 5) ∧ (gR σ1 11 0 0 7 < 2 ∧ gR σ1 11 0 0 8 = 1 - gR σ1 11 0 0 7))
    (main : BlockR σ1 τ1 (gR σ1 11 0 0 5) 0 (gR σ1 11 0 0 7) 0 0) : RelP σ1 τ1 := by
  obtain ⟨r1, ⟨r2, r2'⟩, r3, r4, ⟨r5, r6, r7, r8⟩, r9⟩ := h
  obtain ⟨m1, m2, m3, m12⟩ := m
  refine ⟨fun t ht => ?_, ⟨⟨by rw [t1, t2], by rw [t2]; decide, by rw [t2]; decide, t3, t4, fun k hk => ?_⟩, by rw [l8]; exact r2'⟩, rf, main, ⟨by rw [h12, m23]; exact r5, by rw [m23]; exact r6, by rw [m23]; exact r7, fun i hi => ?_⟩, ?_⟩
  · rw [f.fB 10 t 0 (by decide), f.fI 10 t 0 (by decide), f.fL 10 t 1 (by decide), m1, m2, m3]; exact r1 t ht
  · rw [t2] at hk; exact absurd hk (by have : nat (0 : Int32) = 0 := rfl; omega)
  · rw [m23] at hi
    have hi3 : i < 3 := by have := nat_i (gI σM 12 0 0 23); have := i32_le.mp r7; have : (3 : Int32).toInt = 3 := rfl; omega
    have q := r8 i hi
    have bm : blkM τ1 (600 * (i + 1)) = blkM σM (600 * (i + 1)) := by
      funext j; unfold blkM; split
      · exact mc _ (by omega) (by omega)
      · rfl
    have bw : blkW τ1 (14 * (i + 1)) = blkW σM (14 * (i + 1)) := by
      funext j; unfold blkW; split
      · exact mw _ (by omega) (by omega)
      · rfl
    unfold BlockR at q ⊢
    rw [(h9 (2 + i) (by omega)).1, (h9 (2 + i) (by omega)).2, (h5 (2 + i) (by omega)).1, (h5 (2 + i) (by omega)).2, h7 (2 + i) (by omega), bm, bw]
    exact q
  · rw [f.fB 4 0 0 (by decide), f.fI 4 0 0 (by decide), m47, m12]; exact r9
theorem opens_no {x1 m : Int32} (h : Rel σC σM) (hm : 300 ≤ m.toInt ∧ m.toInt ≤ 900) (hx : ¬ F11_within x1 0 (iMin (gI σC 8 0 0 1) m) = true) : F12_opens (mS σM) x1 m = some (false, sI (mS σM) 12 0 0 0 5) := by
  have e8 : gI (mS σM) 12 0 0 8 = gI σC 8 0 0 1 := by rw [h.1.2.1.1.1, rI_n (by decide), rI_n (by decide)]
  unfold F12_opens
  rw [e8]
  by_cases c1 : x1 < 0
  · rw [if_pos c1, mno_eq, bd_some]
  rw [if_neg c1]
  by_cases c2 : gI σC 8 0 0 1 < x1
  · rw [if_pos c2, mno_eq, bd_some]
  rw [if_neg c2]
  have c3 : ¬ x1 ≤ m := by
    intro e
    apply hx
    refine within_iff.mpr ⟨i32_le.mpr (by have := mt i32_lt.mpr c1; omega), ?_⟩
    unfold iMin
    split
    · first
        | exact e
        | exact i32_le.mpr (by have := mt i32_lt.mpr c2; omega)
    · first
        | exact e
        | exact i32_le.mpr (by have := mt i32_lt.mpr c2; omega)
  rw [if_neg c3, mno_eq, bd_some]
theorem m_clr6 : ∀ k n i τ, i + k = 600 → k < n → ∃ τ', F12_tent_L25 n τ (nI i) = some ((), τ') ∧ FM [] [] [5] τ τ' ∧ (∀ j, i ≤ j → j < 600 → gI τ' 12 0 5 (2400 + j) = 0) ∧ (∀ j, j < 2400 + i → gI τ' 12 0 5 j = gI τ 12 0 5 j) := by
  intro k
  induction k with
  | zero =>
    intro n i τ hi hn
    obtain ⟨n, rfl⟩ : ∃ k, n = k + 1 := ⟨n - 1, by omega⟩
    obtain rfl : i = 600 := by omega
    simp only [F12_tent_L25.eq_2]
    rw [if_pos (show (600 : Int32) ≤ nI 600 from Int32.le_refl _)]
    exact ⟨_, rfl, FM.z, fun j h1 h2 => absurd h1 (by omega), fun _ _ => rfl⟩
  | succ k ih =>
    intro n i τ hi hn
    obtain ⟨n, rfl⟩ : ∃ k, n = k + 1 := ⟨n - 1, by omega⟩
    simp only [F12_tent_L25.eq_2]
    rw [if_neg (show ¬ (600 : Int32) ≤ nI i from nI_ge (a := i) (b := 600) (by omega) (by omega)), show (2400 : Int32) + nI i = nI (2400 + i) from nI_add 2400 i, chk_nI (by omega) (by omega), bnd_eq, cl_nI (by omega), nI_1]
    obtain ⟨τ', o1, o2, o3, o4⟩ := ih n (i + 1) (sI τ 12 0 5 (2400 + i) 0) (by omega) (by omega)
    refine ⟨τ', o1, (FM.sP FM.z (by decide) (by decide)).t o2, fun j h1 h2 => ?_, fun j hj => ?_⟩
    · by_cases c : j = i
      · subst c; rw [o4 (2400 + j) (by omega)]; exact rI_s
      · exact o3 j (by omega) h2
    · rw [o4 j (by omega), rI_n (by omega)]
theorem GS.m5s (h : GS L u r σ0 τ0 s e A AL RI C W B N σ τ) (g : FM [] [] [5] τ τ1) (hj : ∀ j, j < 2400 → gI τ1 12 0 5 j = gI τ 12 0 5 j) : GS L u r σ0 τ0 s e A AL RI (gI τ1 12 0 5) W B N σ τ1 := by
  obtain ⟨g1, g2, g3, g4⟩ := g
  have g7 : gL τ1 12 0 7 = gL τ 12 0 7 := (g4 7 (by decide) (by decide)).2
  have := h.mm (τ1 := τ1) ⟨(PF.z (u := u) (r := r) (τ := τ)).1, fun k _ => g1 k List.not_mem_nil, fun k _ => g2 k List.not_mem_nil, fun k _ => by rw [g3], fun p h5 _ h0 => g4 p (by simpa using h5) h0, hj, fun j _ => by rw [g7]⟩ (fun k _ => g1 k List.not_mem_nil) (funext fun k => g2 k List.not_mem_nil) (g4 4 (by decide) (by decide)).1
  obtain ⟨a1, a2, a3, a4⟩ := h.2.2.2
  rw [g7, a2, g3, a3, g1 27 List.not_mem_nil, a4] at this
  exact this
theorem m_begins : F12_begins τ 2400 = some ((), sI (sI (sI τ 12 0 5 2400 24) 12 0 5 2401 8) 12 0 5 2402 12) := by
  unfold F12_begins
  rw [show (2400 : Int32) + 0 = nI 2400 from rfl, show (2400 : Int32) + 1 = nI 2401 from rfl, show (2400 : Int32) + 2 = nI 2402 from rfl]
  rw [chk_nI (by omega) (by omega), bnd_eq, chk_nI (by omega) (by omega), bnd_eq, chk_nI (by omega) (by omega), bnd_eq, cl_nI (by omega), cl_nI (by omega), cl_nI (by omega)]
/-- a tent of which nothing is told -/
theorem tp_begin {A0 : VI} (hB : B 24 = false ∧ B 25 = false ∧ B 26 = false) (h0 : c 0 = 24) (h1 : c 1 = 8) (h2 : c 2 = 12) (hz : ∀ j, 3 ≤ j → j < 600 → c j = 0) :
    TP (uV (uV (uV (uV (uV (uV (uV (uV A0 0 0 24) 0 1 8) 0 2 12) 0 3 0) 0 4 0) 0 7 0) 0 13 0) 0 19 0) AL c w B := by
  have z3 := hz 3 (by omega) (by omega)
  have z4 := hz 4 (by omega) (by omega)
  have z5 := hz 5 (by omega) (by omega)
  have z6 := hz 6 (by omega) (by omega)
  have n0 : nat (0 : Int32) = 0 := rfl
  obtain ⟨b1, b2, b3⟩ := hB
  refine ⟨⟨by rw [h0]; decide, by rw [h1]; decide, by rw [h2]; decide, by rw [z3]; decide, by rw [z4]; decide, by rw [z5]; decide, by rw [z6]; decide, fun k hk => ?_, fun k hk => ?_, fun k hk => ?_, fun k hk => ?_⟩, ⟨?_, ?_, ?_, ?_, ?_, ?_, ?_, fun k hk => ?_, fun k hk => ?_, fun k hk => ?_⟩, fun k _ _ => ⟨hz _ (by omega) (by omega), hz _ (by omega) (by omega)⟩, fun k _ _ => ⟨hz _ (by omega) (by omega), hz _ (by omega) (by omega)⟩, ⟨hz _ (by omega) (by omega), hz _ (by omega) (by omega), hz _ (by omega) (by omega), fun k _ => hz _ (by omega) (by omega)⟩, ?_⟩
  · rw [z4, n0] at hk; omega
  · rw [z4, n0] at hk; omega
  · rw [z5, n0] at hk; omega
  · rw [z6, n0] at hk; omega
  · rw [h0]; simp (disch := decide) only [uV_n, uV_s]
  · rw [h1]; simp (disch := decide) only [uV_n, uV_s]
  · rw [h2]; simp (disch := decide) only [uV_n, uV_s]
  · rw [z3]; simp (disch := decide) only [uV_n, uV_s]
  · rw [z4]; simp (disch := decide) only [uV_n, uV_s]
  · rw [z5]; simp (disch := decide) only [uV_n, uV_s]
  · rw [z6]; simp (disch := decide) only [uV_n, uV_s]
  · rw [z4, n0] at hk; omega
  · rw [z5, n0] at hk; omega
  · rw [z6, n0] at hk; omega
  · rw [b1, b2, b3, uV_s]; rfl
/-- behind a text with a fault -/
theorem txt_bad (h : Rel σC σM) (b : BS (gR σC 11 0 0 6) (gR σC 11 0 0 8) σC (tB σM L) σ τ) :
    ∃ τ', F12_isWell τ = some (false, τ') ∧ Rel (cS (sI σ 8 0 0 1 0) 10) τ' := by
  obtain ⟨⟨⟨f, f9, f5, f8, fl, fm⟩, g1, g2, g3, g4, g5, g6⟩, b1, b2, b3⟩ := b
  have b0 : ¬ gI τ 12 0 0 12 = 0 := fun e => by rw [e] at b1; exact absurd b1 (by decide)
  have b0' : ¬ gI (sI τ 12 0 0 10 (gI τ 12 0 0 12)) 12 0 0 12 = 0 := by rw [rI_n (by decide)]; exact b0
  obtain ⟨⟨u1, u2⟩, ⟨v1, v2⟩⟩ := h.1.2.2.1
  unfold F12_isWell
  rw [bnd_eq, if_neg b0']
  unfold F12_isWell_p24
  rw [bnd_eq, if_neg (by rw [rI_n (by decide)]; exact b0'), mno_eq, bd_some, if_neg (by decide)]
  refine ⟨_, rfl, ?_, ?_, ?_, ?_⟩
  · refine RelP.congr (σC := sI σ 8 0 0 1 0) (σM := sI (sI τ 12 0 0 10 (gI τ 12 0 0 12)) 12 0 0 11 (gI τ 12 0 0 13)) ?_ PC_st ?_
    · refine h.1.txt (FC.t (f.m (by decide)) (FC.I (by decide))) ?_ fl (fun b hb => ?_) (fun b hb => ?_) (fun b hb => ?_) ⟨?_, ?_, ?_, ?_⟩ ?_ ?_ (fun j h1 h2 => ?_) (fun j h1 h2 => ?_) rI_s ?_ ?_ ?_ ?_ ?_
      · rw [rI_a (by decide), f.fI 11 0 0 (by decide)]
      · have := f9 b (by omega)
        exact ⟨by rw [← this.1]; funext k; exact rI_a (by decide), this.2⟩
      · have := f5 b (by omega)
        exact ⟨by rw [← this.1]; funext k; exact rI_a (by decide), this.2⟩
      · simp (disch := decide) only [TY, rI_a, f.fI 7 b _ (show 7 ∉ [5, 8, 9] by decide)]
      · simp (disch := decide) only [rI_s, rI_n, rI_f, rI_a, rI_c, rL_s, rL_n, rL_f, rL_a, rL_c, rB_s, rB_n, rB_a, rR_s, rR_n, gI_sL, gI_sB, gI_sR, gL_sI, gL_sB, gL_sR, gB_sI, gB_sL, gB_sR, gR_sI, gR_sL, gR_sB]; rw [(g4 1 (by decide) (by decide) (by decide)).1]; simp (disch := decide) only [rI_s, rI_n, rI_f, rI_a, rI_c, rL_s, rL_n, rL_f, rL_a, rL_c, rB_s, rB_n, rB_a, rR_s, rR_n, gI_sL, gI_sB, gI_sR, gL_sI, gL_sB, gL_sR, gB_sI, gB_sL, gB_sR, gR_sI, gR_sL, gR_sB]
      · simp (disch := decide) only [rI_s, rI_n, rI_f, rI_a, rI_c, rL_s, rL_n, rL_f, rL_a, rL_c, rB_s, rB_n, rB_a, rR_s, rR_n, gI_sL, gI_sB, gI_sR, gL_sI, gL_sB, gL_sR, gB_sI, gB_sL, gB_sR, gR_sI, gR_sL, gR_sB]; rw [(g4 2 (by decide) (by decide) (by decide)).1]; simp (disch := decide) only [rI_s, rI_n, rI_f, rI_a, rI_c, rL_s, rL_n, rL_f, rL_a, rL_c, rB_s, rB_n, rB_a, rR_s, rR_n, gI_sL, gI_sB, gI_sR, gL_sI, gL_sB, gL_sR, gB_sI, gB_sL, gB_sR, gR_sI, gR_sL, gR_sB]
      · simp (disch := decide) only [rI_s, rI_n, rI_f, rI_a, rI_c, rL_s, rL_n, rL_f, rL_a, rL_c, rB_s, rB_n, rB_a, rR_s, rR_n, gI_sL, gI_sB, gI_sR, gL_sI, gL_sB, gL_sR, gB_sI, gB_sL, gB_sR, gR_sI, gR_sL, gR_sB]; rw [(g4 3 (by decide) (by decide) (by decide)).2]; rfl
      · simp (disch := decide) only [rI_s, rI_n, rI_f, rI_a, rI_c, rL_s, rL_n, rL_f, rL_a, rL_c, rB_s, rB_n, rB_a, rR_s, rR_n, gI_sL, gI_sB, gI_sR, gL_sI, gL_sB, gL_sR, gB_sI, gB_sL, gB_sR, gR_sI, gR_sL, gR_sB]; rw [(g4 12 (by decide) (by decide) (by decide)).1]; simp (disch := decide) only [rI_s, rI_n, rI_f, rI_a, rI_c, rL_s, rL_n, rL_f, rL_a, rL_c, rB_s, rB_n, rB_a, rR_s, rR_n, gI_sL, gI_sB, gI_sR, gL_sI, gL_sB, gL_sR, gB_sI, gB_sL, gB_sR, gR_sI, gR_sL, gR_sB]
      · simp (disch := decide) only [rI_s, rI_n, rI_f, rI_a, rI_c, rL_s, rL_n, rL_f, rL_a, rL_c, rB_s, rB_n, rB_a, rR_s, rR_n, gI_sL, gI_sB, gI_sR, gL_sI, gL_sB, gL_sR, gB_sI, gB_sL, gB_sR, gR_sI, gR_sL, gR_sB]; rw [g1 23 (by decide)]; simp (disch := decide) only [rI_s, rI_n, rI_f, rI_a, rI_c, rL_s, rL_n, rL_f, rL_a, rL_c, rB_s, rB_n, rB_a, rR_s, rR_n, gI_sL, gI_sB, gI_sR, gL_sI, gL_sB, gL_sR, gB_sI, gB_sL, gB_sR, gR_sI, gR_sL, gR_sB]
      · simp (disch := decide) only [rI_s, rI_n, rI_f, rI_a, rI_c, rL_s, rL_n, rL_f, rL_a, rL_c, rB_s, rB_n, rB_a, rR_s, rR_n, gI_sL, gI_sB, gI_sR, gL_sI, gL_sB, gL_sR, gB_sI, gB_sL, gB_sR, gR_sI, gR_sL, gR_sB]; rw [g3 47 (by decide)]; rfl
      · simp (disch := decide) only [rI_s, rI_n, rI_f, rI_a, rI_c, rL_s, rL_n, rL_f, rL_a, rL_c, rB_s, rB_n, rB_a, rR_s, rR_n, gI_sL, gI_sB, gI_sR, gL_sI, gL_sB, gL_sR, gB_sI, gB_sL, gB_sR, gR_sI, gR_sL, gR_sB]; rw [g5 j h2]; simp (disch := decide) only [rI_s, rI_n, rI_f, rI_a, rI_c, rL_s, rL_n, rL_f, rL_a, rL_c, rB_s, rB_n, rB_a, rR_s, rR_n, gI_sL, gI_sB, gI_sR, gL_sI, gL_sB, gL_sR, gB_sI, gB_sL, gB_sR, gR_sI, gR_sL, gR_sB]
      · simp (disch := decide) only [rI_s, rI_n, rI_f, rI_a, rI_c, rL_s, rL_n, rL_f, rL_a, rL_c, rB_s, rB_n, rB_a, rR_s, rR_n, gI_sL, gI_sB, gI_sR, gL_sI, gL_sB, gL_sR, gB_sI, gB_sL, gB_sR, gR_sI, gR_sL, gR_sB]; rw [g6 j h2]; rfl
      · simp (disch := decide) only [rI_s, rI_n, rI_f, rI_a, rI_c, rL_s, rL_n, rL_f, rL_a, rL_c, rB_s, rB_n, rB_a, rR_s, rR_n, gI_sL, gI_sB, gI_sR, gL_sI, gL_sB, gL_sR, gB_sI, gB_sL, gB_sR, gR_sI, gR_sL, gR_sB]; rw [g1 8 (by decide)]; exact rI_s
      · simp (disch := decide) only [rI_s, rI_n, rI_f, rI_a, rI_c, rL_s, rL_n, rL_f, rL_a, rL_c, rB_s, rB_n, rB_a, rR_s, rR_n, gI_sL, gI_sB, gI_sR, gL_sI, gL_sB, gL_sR, gB_sI, gB_sL, gB_sR, gR_sI, gR_sL, gR_sB]; exact b2
      · simp (disch := decide) only [rI_s, rI_n, rI_f, rI_a, rI_c, rL_s, rL_n, rL_f, rL_a, rL_c, rB_s, rB_n, rB_a, rR_s, rR_n, gI_sL, gI_sB, gI_sR, gL_sI, gL_sB, gL_sR, gB_sI, gB_sL, gB_sR, gR_sI, gR_sL, gR_sB]; exact b3
      · rw [gR_sI, f.fR 11 0 0 (by decide)]; exact ⟨⟨u1, u2⟩, ⟨v1, v2⟩⟩
      · rw [gR_sI, f.fR 11 0 0 (by decide)]
        have q := h.1.2.2.2.1
        unfold BlockR at q ⊢
        have bm : blkM (sI (sI τ 12 0 0 10 (gI τ 12 0 0 12)) 12 0 0 11 (gI τ 12 0 0 13)) 0 = blkM σM 0 := by
          funext j; unfold blkM; split
          · rename_i hj
            show gI (sI (sI τ 12 0 0 10 (gI τ 12 0 0 12)) 12 0 0 11 (gI τ 12 0 0 13)) 12 0 5 (0 + j) = _
            rw [rI_c (by decide), rI_c (by decide), g5 _ (by omega)]; simp (disch := decide) only [rI_s, rI_n, rI_f, rI_a, rI_c, rL_s, rL_n, rL_f, rL_a, rL_c, rB_s, rB_n, rB_a, rR_s, rR_n, gI_sL, gI_sB, gI_sR, gL_sI, gL_sB, gL_sR, gB_sI, gB_sL, gB_sR, gR_sI, gR_sL, gR_sB]
          · rfl
        have bw : blkW (sI (sI τ 12 0 0 10 (gI τ 12 0 0 12)) 12 0 0 11 (gI τ 12 0 0 13)) 0 = blkW σM 0 := by
          funext j; unfold blkW; split
          · rename_i hj
            show gL τ 12 0 7 (0 + j) = _
            rw [g6 _ (by omega)]; rfl
          · rfl
        have e9 := f9 (gR σC 11 0 0 5) (by omega)
        have e5 := f5 (gR σC 11 0 0 7) (by omega)
        rw [bm, bw, show gI (sI σ 8 0 0 1 0) 9 (gR σC 11 0 0 5) = gI σC 9 (gR σC 11 0 0 5) by rw [← e9.1]; funext k; exact rI_a (by decide), show gL (sI σ 8 0 0 1 0) 9 (gR σC 11 0 0 5) = gL σC 9 (gR σC 11 0 0 5) from e9.2,
          show gI (sI σ 8 0 0 1 0) 5 (gR σC 11 0 0 7) = gI σC 5 (gR σC 11 0 0 7) by rw [← e5.1]; funext k; exact rI_a (by decide), show gB (sI σ 8 0 0 1 0) 5 (gR σC 11 0 0 7) = gB σC 5 (gR σC 11 0 0 7) from e5.2,
          show TY (sI σ 8 0 0 1 0) 0 = TY σC 0 by simp (disch := decide) only [TY, rI_a, f.fI 7 0 _ (show 7 ∉ [5, 8, 9] by decide)]]
        exact q
    · rw [show gI (sI τ 12 0 0 10 (gI τ 12 0 0 12)) 12 0 0 13 = gI τ 12 0 0 13 from rI_n (by decide)]
      exact PM_I (by decide)
  · rw [rI_s, rI_s]
  · simp (disch := decide) only [rI_s, rI_n, rI_f, rI_a, rI_c, rL_s, rL_n, rL_f, rL_a, rL_c, rB_s, rB_n, rB_a, rR_s, rR_n, gI_sL, gI_sB, gI_sR, gL_sI, gL_sB, gL_sR, gB_sI, gB_sL, gB_sR, gR_sI, gR_sL, gR_sB]; rw [f.fL 11 0 0 (by decide), g2 2 (by decide)]; exact h.2.2.1
  · simp (disch := decide) only [rI_s, rI_n, rI_f, rI_a, rI_c, rL_s, rL_n, rL_f, rL_a, rL_c, rB_s, rB_n, rB_a, rR_s, rR_n, gI_sL, gI_sB, gI_sR, gL_sI, gL_sB, gL_sR, gB_sI, gB_sL, gB_sR, gR_sI, gR_sL, gR_sB]; rw [f.fL 11 0 0 (by decide), g2 3 (by decide)]; exact h.2.2.2
end TNV
