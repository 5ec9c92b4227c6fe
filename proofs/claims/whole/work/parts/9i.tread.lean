/-! PURE. tent: a part of it is read, both sides alike. -/
section TRD
theorem bd_bnd {α β γ : Type} (x : α) (f : α → Option (β × Mem)) (g : β → Mem → Option (γ × Mem)) : bd (bnd x f) g = bnd x fun y => bd (f y) g := by
  rw [bnd_eq, bnd_eq]
theorem bdS {β γ : Type} (x : β) (s : Mem) (K : β → Mem → Option γ) : bd (some (x, s)) K = K x s := by rw [bd_some]
theorem bd_chk {β γ : Type} (n : Nat) (i : Int32) (e : Option (β × Mem)) (g : β → Mem → Option (γ × Mem)) : bd (chk n i e) g = chk n i (bd e g) := by
  unfold chk; split <;> rfl
theorem bd_ite {β γ : Type} (c : Prop) [Decidable c] (a b : Option (β × Mem)) (g : β → Mem → Option (γ × Mem)) : bd (if c then a else b) g = if c then bd a g else bd b g := by
  by_cases h : c
  · rw [if_pos h, if_pos h]
  · rw [if_neg h, if_neg h]
theorem bd_obind {α β γ : Type} (x : Option α) (f : α → Option (β × Mem)) (g : β → Mem → Option (γ × Mem)) : bd (x.bind f) g = x.bind fun v => bd (f v) g := by
  cases x with
  | none => rfl
  | some y => rfl
end TRD
section TRE
variable {σ τ σ1 τ1 σ2 τ2 σ0 τ0 : Mem} {L u r s e : Nat} {A RI : VI} {AL : VL} {C : Nat → Int32} {W : Nat → Int64} {B : Nat → Bool} {N : Int32} {G : Mem → Mem → Prop}
theorem b_ald {n j : Nat} {f : Nat → Int32} {K : Int32 → Option (Unit × Mem)} (hj : j < n) (hn : n < 100000) (k : BR u r σ0 τ0 σ (K (f j))) : BR u r σ0 τ0 σ ((ald n f (nI j)).bind K) := by
  rw [ald_nI hj (by omega), Option.bind_some]; exact k
theorem TxR.c8 (t : TxR L σ τ) (h : σ1.1 8 = σ.1 8) (l : σ1.2.1 8 = σ.2.1 8) : TxR L σ1 τ := by
  unfold TxR at *
  simp only [gI, gL, h, l] at *
  exact t
theorem TkR.c8 (t : TkR L s e σ τ) (h : σ1.1 8 = σ.1 8) (l : σ1.2.1 8 = σ.2.1 8) : TkR L s e σ1 τ := by
  unfold TkR at *
  simp only [gI, gL, h, l] at *
  exact t
theorem TkR.m (t : TkR L s e σ τ) (h : ∀ k, k ≠ 27 → gI τ1 12 0 0 k = gI τ 12 0 0 k) (l : gL τ1 12 0 0 = gL τ 12 0 0) : TkR L s e σ τ1 := by
  have hx : wix τ1 = wix τ := by unfold wix; rw [h 14 (by decide), l]
  unfold TkR at *
  rw [h 14 (by decide), h 15 (by decide), h 16 (by decide), h 17 (by decide), h 18 (by decide), l, hx]
  exact t
theorem GS.c (h : GS L u r σ0 τ0 s e A AL RI C W B N σ τ) (p : PF u r σ τ σ1 τ) (i : σ1.1 8 = σ.1 8) (l : σ1.2.1 8 = σ.2.1 8) : GS L u r σ0 τ0 s e (gI σ1 9 u) (gL σ1 9 u) (gI σ1 5 r) C W B N σ1 τ := by
  obtain ⟨⟨h1, h2, h3⟩, ⟨h4, h5, h6⟩, h7, h10⟩ := h
  refine ⟨⟨h1.t p, h2.c8 i l, h3.c8 i l⟩, ⟨h4, ?_, ?_⟩, ⟨rfl, rfl, rfl⟩, h10⟩
  · show σ1.1 8 0 0 2 = 0; rw [i]; exact h5
  · show σ1.1 8 0 0 3 = -1; rw [i]; exact h6
theorem GS.mm (h : GS L u r σ0 τ0 s e A AL RI C W B N σ τ) (p : PF u r σ τ σ τ1) (i : ∀ k, k ≠ 27 → gI τ1 12 0 0 k = gI τ 12 0 0 k) (l : gL τ1 12 0 0 = gL τ 12 0 0) (t4 : gI τ1 12 0 4 = gI τ 12 0 4) :
    GS L u r σ0 τ0 s e A AL RI (gI τ1 12 0 5) (gL τ1 12 0 7) (gB τ1 12 0 0) (gI τ1 12 0 0 27) σ τ1 := by
  obtain ⟨⟨h1, h2, h3⟩, ⟨h4, h5, h6⟩, h7, h10⟩ := h
  exact ⟨⟨h1.t p, h2.fr CT.z (i 9 (by decide)) t4, h3.m i l⟩, ⟨by rw [i 12 (by decide)]; exact h4, h5, h6⟩, h7, rfl, rfl, rfl, rfl⟩
theorem e8_9 {c j : Nat} {v : Int32} : (sI σ 9 u c j v).1 8 = σ.1 8 := by funext b' c'; simp [sIf]
theorem e8_9L {c j : Nat} {v : Int64} : (sL σ 9 u c j v).2.1 8 = σ.2.1 8 := by funext b' c'; simp [sLf]
theorem e8_5 {c j : Nat} {v : Int32} : (sI σ 5 r c j v).1 8 = σ.1 8 := by funext b' c'; simp [sIf]
theorem gI_uV {c j : Nat} {v : Int32} {a b : Nat} : gI (sI σ a b c j v) a b = uV (gI σ a b) c j v := by
  funext c' j'
  show (if a = a ∧ b = b ∧ c' = c then upd (gI σ a b c) j v else gI σ a b c') j' = _
  unfold uV
  by_cases h1 : c' = c
  · subst h1
    by_cases h2 : j' = j
    · subst h2; simp [upd_eq]
    · simp [upd_eq, h2]
  · simp [h1]
theorem gL_uV {c j : Nat} {v : Int64} {a b : Nat} : gL (sL σ a b c j v) a b = uVL (gL σ a b) c j v := by
  funext c' j'
  show (if a = a ∧ b = b ∧ c' = c then vp_updL (gL σ a b c) j v else gL σ a b c') j' = _
  unfold uVL
  by_cases h1 : c' = c
  · subst h1
    by_cases h2 : j' = j
    · subst h2; simp [updL_eq]
    · simp [updL_eq, h2]
  · simp [h1]
theorem GS.c9 (h : GS L u r σ0 τ0 s e A AL RI C W B N σ τ) {c j : Nat} {v : Int32} : GS L u r σ0 τ0 s e (uV A c j v) AL RI C W B N (sI σ 9 u c j v) τ := by
  have := h.c (σ1 := sI σ 9 u c j v) pf_9 e8_9 rfl
  obtain ⟨a1, a2, a3⟩ := h.2.2.1
  rw [gI_uV, a1, show gL (sI σ 9 u c j v) 9 u = AL from a2, show gI (sI σ 9 u c j v) 5 r = RI from by rw [← a3]; funext k; exact rI_a (by decide)] at this
  exact this
theorem GS.c9L (h : GS L u r σ0 τ0 s e A AL RI C W B N σ τ) {c j : Nat} {v : Int64} : GS L u r σ0 τ0 s e A (uVL AL c j v) RI C W B N (sL σ 9 u c j v) τ := by
  have := h.c (σ1 := sL σ 9 u c j v) pf_9L rfl e8_9L
  obtain ⟨a1, a2, a3⟩ := h.2.2.1
  rw [gL_uV, a2, show gI (sL σ 9 u c j v) 9 u = A from a1, show gI (sL σ 9 u c j v) 5 r = RI from a3] at this
  exact this
theorem GS.c5 (h : GS L u r σ0 τ0 s e A AL RI C W B N σ τ) {c j : Nat} {v : Int32} : GS L u r σ0 τ0 s e A AL (uV RI c j v) C W B N (sI σ 5 r c j v) τ := by
  have := h.c (σ1 := sI σ 5 r c j v) pf_5 e8_5 rfl
  obtain ⟨a1, a2, a3⟩ := h.2.2.1
  rw [gI_uV, a3, show gL (sI σ 5 r c j v) 9 u = AL from a2, show gI (sI σ 5 r c j v) 9 u = A from by rw [← a1]; funext k; exact rI_a (by decide)] at this
  exact this
theorem GS.m5 (h : GS L u r σ0 τ0 s e A AL RI C W B N σ τ) {j : Nat} {v : Int32} (hj : 2400 ≤ j) : GS L u r σ0 τ0 s e A AL RI (upd C j v) W B N σ (sI τ 12 0 5 j v) := by
  have := h.mm (τ1 := sI τ 12 0 5 j v) (pf_m5 hj) (fun k _ => by rw [rI_c (by decide)]) rfl (rI_c (by decide))
  obtain ⟨a1, a2, a3, a4⟩ := h.2.2.2
  rw [rI_f, a1, show gL (sI τ 12 0 5 j v) 12 0 7 = W from a2, show gB (sI τ 12 0 5 j v) 12 0 0 = B from a3, rI_c (by decide), a4] at this
  exact this
theorem GS.m7 (h : GS L u r σ0 τ0 s e A AL RI C W B N σ τ) {j : Nat} {v : Int64} (hj : 56 ≤ j) : GS L u r σ0 τ0 s e A AL RI C (vp_updL W j v) B N σ (sL τ 12 0 7 j v) := by
  have := h.mm (τ1 := sL τ 12 0 7 j v) (pf_m7 hj) (fun k _ => rfl) (rL_c (by decide)) rfl
  obtain ⟨a1, a2, a3, a4⟩ := h.2.2.2
  rw [show gL (sL τ 12 0 7 j v) 12 0 7 = vp_updL (gL τ 12 0 7) j v from by funext i; simp [gL_sL], a2, show gI (sL τ 12 0 7 j v) 12 0 5 = C from a1, show gB (sL τ 12 0 7 j v) 12 0 0 = B from a3, show gI (sL τ 12 0 7 j v) 12 0 0 27 = N from a4] at this
  exact this
theorem GS.mB (h : GS L u r σ0 τ0 s e A AL RI C W B N σ τ) {j : Nat} {v : Bool} (hj : j ∈ [24, 25, 26]) : GS L u r σ0 τ0 s e A AL RI C W (upB B j v) N σ (sB τ 12 0 0 j v) := by
  have := h.mm (τ1 := sB τ 12 0 0 j v) (pf_mB hj) (fun k _ => rfl) rfl rfl
  obtain ⟨a1, a2, a3, a4⟩ := h.2.2.2
  rw [show gB (sB τ 12 0 0 j v) 12 0 0 = upB (gB τ 12 0 0) j v from by funext i; simp [gB_sB], a3, show gI (sB τ 12 0 0 j v) 12 0 5 = C from a1, show gL (sB τ 12 0 0 j v) 12 0 7 = W from a2, show gI (sB τ 12 0 0 j v) 12 0 0 27 = N from a4] at this
  exact this
theorem GS.mN (h : GS L u r σ0 τ0 s e A AL RI C W B N σ τ) {v : Int32} : GS L u r σ0 τ0 s e A AL RI C W B v σ (sI τ 12 0 0 27 v) := by
  have := h.mm (τ1 := sI τ 12 0 0 27 v) (pf_m (by decide)) (fun k hk => rI_n hk) rfl (rI_c (by decide))
  obtain ⟨a1, a2, a3, a4⟩ := h.2.2.2
  rw [rI_s, show gI (sI τ 12 0 0 27 v) 12 0 5 = C from by rw [rI_c (by decide)]; exact a1, show gL (sI τ 12 0 0 27 v) 12 0 7 = W from a2, show gB (sI τ 12 0 0 27 v) 12 0 0 = B from a3] at this
  exact this
theorem GS.ok (h : GS L u r σ0 τ0 s e A AL RI C W B N σ τ) : gI τ 12 0 0 12 ≤ 0 := by rw [h.2.1.1]; decide
/-- the class writes -/
theorem k_c9 (h : GS L u r σ0 τ0 s e A AL RI C W B N σ τ) {c j : Nat} {v : Int32} {K : Mem → Option (Bool × Mem)} {Y : Option (Unit × Mem)}
    (ok : ∀ σ', GS L u r σ0 τ0 s e (uV A c j v) AL RI C W B N σ' τ → Fin2 u r σ0 τ0 G (K σ') Y) : Fin2 u r σ0 τ0 G (bnd (sI σ 9 u c j v) fun s => K s) Y := ok _ h.c9
theorem k_c9i (h : GS L u r σ0 τ0 s e A AL RI C W B N σ τ) {n c j : Nat} {v : Int32} {K : Mem → Option (Bool × Mem)} {Y : Option (Unit × Mem)} (hj : j < n) (hn : n < 1000)
    (ok : ∀ σ', GS L u r σ0 τ0 s e (uV A c j v) AL RI C W B N σ' τ → gI σ' 8 0 0 9 = gI σ 8 0 0 9 → Fin2 u r σ0 τ0 G (K σ') Y) : Fin2 u r σ0 τ0 G (chk n (nI j) <| bnd (sI σ 9 u c (Int32.toNatClampNeg (nI j)) v) fun s => K s) Y := by
  rw [chk_nI hj (by omega), bnd_eq, cl_nI (by omega)]
  exact ok _ h.c9 (by rw [rI_a (by decide)])
theorem k_m5 (h : GS L u r σ0 τ0 s e A AL RI C W B N σ τ) {i : Int32} {j : Nat} {v : Int32} {K : Mem → Option (Unit × Mem)} {X : Option (Bool × Mem)} (hi : i = nI j) (h1 : 2400 ≤ j) (h2 : j < 3000)
    (ok : ∀ τ', GS L u r σ0 τ0 s e A AL RI (upd C j v) W B N σ τ' → wix τ' = wix τ → Fin2 u r σ0 τ0 G X (K τ')) : Fin2 u r σ0 τ0 G X (chk 3000 i <| bnd (sI τ 12 0 5 (Int32.toNatClampNeg i) v) fun s => K s) := by
  subst hi
  rw [chk_nI h2 (by omega), bnd_eq, cl_nI (by omega)]
  refine ok _ (h.m5 h1) ?_
  unfold wix
  rw [rI_c (by decide), gL_sI]
/-- a word that may be here -/
theorem GS.skip_yes (h : GS L u r σ0 τ0 s e A AL RI C W B N σ τ) {i : Nat} {x : Int32} (hx : x = nI i) (k : wix τ = nI i) : F8_skipWord σ x = bd (F8_advance σ) fun _ s => some (true, s) := by
  subst hx
  unfold F8_skipWord
  rw [h.idx, if_pos k]
theorem GS.skip_no (h : GS L u r σ0 τ0 s e A AL RI C W B N σ τ) {i : Nat} {x : Int32} (hx : x = nI i) (k : ¬ wix τ = nI i) : F8_skipWord σ x = some (false, σ) := by
  subst hx
  unfold F8_skipWord
  rw [h.idx, if_neg k]
/-- tube, far, wind: told once -/
theorem k_once (h : GS L u r σ0 τ0 s e A AL RI C W B N σ τ) (g : Go τ) {x bv t' : Int32} {b : Nat} (hb : b ∈ [24, 25, 26]) (hx : (1 : Int32) <<< (x &&& 31) = bv) (t0 : A 0 19 &&& bv = 0 ↔ B b = false) (t1 : A 0 19 ||| bv = t')
    {K : Mem → Option (Bool × Mem)} {M' Z : Mem → Option (Unit × Mem)} (no : ∀ σ τ, BS u r σ0 τ0 σ τ → BR u r σ0 τ0 σ (Z τ))
    (ok : ∀ σ' τ' s' e', s < s' → GS L u r σ0 τ0 s' e' (uV A 0 19 t') AL RI C W (upB B b true) N σ' τ' → Fin2 u r σ0 τ0 G (K σ') (M' τ')) :
    Fin2 u r σ0 τ0 G (bd (F9_beginOnce σ u x) fun v s => if v = true then K s else some (false, s))
      (if gB τ 12 0 0 b = true then (bd (F12_fail τ 5 (gI τ 12 0 0 15)) fun _ s => if gI s 12 0 0 12 ≤ 0 then (bnd (sB s 12 0 0 b true) fun s_1 => bd (F12_next s_1) fun _ s => M' s) else Z s) else (if gI τ 12 0 0 12 ≤ 0 then (bnd (sB τ 12 0 0 b true) fun s_1 => bd (F12_next s_1) fun _ s => M' s) else Z τ)) := by
  unfold F9_beginOnce
  rw [hx, bnd_eq, show gI σ 9 u 0 19 = A 0 19 by rw [h.2.2.1.1], show gB τ 12 0 0 b = B b by rw [h.2.2.2.2.2.1]]
  by_cases k : B b = true
  · have k' : ¬ A 0 19 &&& bv = 0 := fun e => by rw [t0.mp e] at k; exact absurd k (by decide)
    obtain ⟨σ', o1, τ', o2, o3⟩ := h.bad (k := 5) (by decide) g.2
    rw [if_neg k', if_pos k, o1, o2, bd_some, bd_some, bd_some, if_neg (by decide), if_neg o3.n1]
    exact (no _ _ o3).fin
  · have k' : A 0 19 &&& bv = 0 := t0.mpr (by cases hB : B b with | true => exact absurd hB k | false => rfl)
    rw [if_pos k', if_neg k, if_pos h.ok, t1, bnd_eq, bnd_eq]
    obtain ⟨σ', τ', s', e', o1, o2, o3, o4, o5⟩ := ((h.c9 (c := 0) (j := 19) (v := t')).mB hb (v := true)).nxt g
    rw [o1, o2, bd_some, bd_some, bd_some, if_pos rfl]
    exact ok σ' τ' s' e' o3 o4
/-- one too many -/
theorem k_many (h : GS L u r σ0 τ0 s e A AL RI C W B N σ τ) (g : Go τ) {k m : Nat} (hk : k ≤ m) (hm : m < 1000) {X : Option (Bool × Mem)} {M : Mem → Option (Unit × Mem)} (no : ∀ σ τ, BS u r σ0 τ0 σ τ → BR u r σ0 τ0 σ (M τ)) (ok : k < m → Fin2 u r σ0 τ0 G X (M τ)) :
    Fin2 u r σ0 τ0 G (if nI k < nI m then X else F8_refuseHere σ 6) (if nI k = nI m then (bd (F12_fail τ 6 (gI τ 12 0 0 15)) fun _ s => M s) else M τ) := by
  by_cases c : k < m
  · rw [if_pos (nI_lt c (by omega)), if_neg (fun e => by have := (nI_eq (by omega) (by omega)).mp e; omega)]
    exact ok c
  · obtain rfl : k = m := by omega
    obtain ⟨σ', o1, τ', o2, o3⟩ := h.bad (k := 6) (by decide) g.2
    rw [if_neg (Int32.lt_irrefl), if_pos rfl, o1, o2, bd_some]
    exact (no _ _ o3).fin
/-- what a part of the tent comes to -/
def TG (L u r : Nat) (σ0 τ0 : Mem) (s : Nat) (RI : VI) (N : Int32) (σ τ : Mem) : Prop := ∃ s' e' A AL C W B, s < s' ∧ GS L u r σ0 τ0 s' e' A AL RI C W B N σ τ ∧ TP A AL (sh C) (shW W) B
theorem sh_ne {i : Nat} {v : Int32} (j : Nat) (h : ¬ j = i) : sh (upd C (2400 + i) v) j = sh C j := if_neg (by omega)
theorem sh_s {i : Nat} {v : Int32} : sh (upd C (2400 + i) v) i = v := if_pos rfl
theorem uV_s {c j : Nat} {v : Int32} : uV A c j v c j = v := if_pos ⟨rfl, rfl⟩
theorem uV_n {c j x i : Nat} {v : Int32} (h : ¬ (x = c ∧ i = j)) : uV A c j v x i = A x i := if_neg h
theorem uVL_s {c j : Nat} {v : Int64} : uVL AL c j v c j = v := if_pos ⟨rfl, rfl⟩
theorem uVL_n {c j x i : Nat} {v : Int64} (h : ¬ (x = c ∧ i = j)) : uVL AL c j v x i = AL x i := if_neg h
theorem p_tube (h : GS L u r σ0 τ0 s e A AL RI C W B N σ τ) (tp : TP A AL (sh C) (shW W) B) (hw : wix τ = nI 0) :
    Fin2 u r σ0 τ0 (TG L u r σ0 τ0 s RI N) (F9_parseTube σ u) (bd (F12_readTube τ) fun _ s => F12_must s (F12_isSign s 59)) := by
  have t := tp.2.2.2.2.2
  have tq := tl_1 (B 24) (B 25) (B 26)
  unfold F9_parseTube F12_readTube F12_readTube_p16
  simp only [bd_assoc, bd_bnd, bd_chk, bd_ite, bdS, bd_obind, bd_id, bd_u]
  rw [show (2400 : Int32) = nI 2400 from rfl, show (2401 : Int32) = nI 2401 from rfl]
  refine k_once h (go1 (wix_go (by omega) hw)) (b := 24) (bv := 1) (t' := tl true (B 25) (B 26)) (by decide) (by decide) (by rw [t]; exact tq.1) (by rw [t]; exact tq.2) (fun σ τ hb => b_must0 hb) (fun σ1 τ1 s1 e1 l1 h1 => ?_)
  have tp1 : TP (uV A 0 19 (tl true (B 25) (B 26))) AL (sh C) (shW W) (upB B 24 true) := tp.told (fun x j hj => uV_n hj) (by rw [uV_s]; rfl)
  refine k_num h1 (fun v σ2 τ2 s2 e2 v1 v2 l2 q2 h2 => ?_) (fun σ2 τ2 hb => ?_)
  rotate_left
  · repeat' with_reducible first | exact b_must0 (by assumption) | exact b_fin (by assumption) | refine b_must (by assumption) ?_ | refine b_count (by assumption) ?_ | refine b_le (by assumption) ?_ | refine b_eq (by assumption) ?_ | refine b_lt (by assumption) ?_ | refine b_ald (by omega) (by omega) ?_ | (refine b_cell (by assumption) rfl (by omega) (by omega) ?_; intro _ _)
  rw [q2]
  refine k_c9 h2 (fun σ3 h3 => ?_)
  refine k_m5 h3 rfl (by omega) (by omega) (fun τ3 h4 _ => ?_)
  have tp2 := tp1.top (i := 0) (v := v) (A' := uV (uV A 0 19 (tl true (B 25) (B 26))) 0 0 v) (c' := sh (upd C 2400 v)) (by omega) ⟨fun _ => ⟨v1, v2⟩, fun e => absurd e (by decide), fun e => absurd e (by decide), fun e => absurd e (by decide)⟩ (fun x j hj => uV_n hj) uV_s (fun j hj => sh_ne (i := 0) j hj) (sh_s (i := 0))
  refine k_word h4 1 (by omega) rfl (w_bore) (fun σ5 τ5 s5 e5 l5 _ h5 => ?_) (fun σ5 τ5 hb => ?_)
  rotate_left
  · repeat' with_reducible first | exact b_must0 (by assumption) | exact b_fin (by assumption) | refine b_must (by assumption) ?_ | refine b_count (by assumption) ?_ | refine b_le (by assumption) ?_ | refine b_eq (by assumption) ?_ | refine b_lt (by assumption) ?_ | refine b_ald (by omega) (by omega) ?_ | (refine b_cell (by assumption) rfl (by omega) (by omega) ?_; intro _ _)
  refine k_num h5 (fun v' σ6 τ6 s6 e6 v1' v2' l6 q6 h6 => ?_) (fun σ6 τ6 hb => ?_)
  rotate_left
  · repeat' with_reducible first | exact b_must0 (by assumption) | exact b_fin (by assumption) | refine b_must (by assumption) ?_ | refine b_count (by assumption) ?_ | refine b_le (by assumption) ?_ | refine b_eq (by assumption) ?_ | refine b_lt (by assumption) ?_ | refine b_ald (by omega) (by omega) ?_ | (refine b_cell (by assumption) rfl (by omega) (by omega) ?_; intro _ _)
  rw [q6]
  refine k_c9 h6 (fun σ7 h7 => ?_)
  refine k_m5 h7 rfl (by omega) (by omega) (fun τ7 h8 _ => ?_)
  have tp3 := tp2.top (i := 1) (v := v') (A' := uV (uV (uV A 0 19 (tl true (B 25) (B 26))) 0 0 v) 0 1 v') (c' := sh (upd (upd C 2400 v) 2401 v')) (by omega) ⟨fun e => absurd e (by decide), fun _ => ⟨v1', v2'⟩, fun e => absurd e (by decide), fun e => absurd e (by decide)⟩ (fun x j hj => uV_n hj) uV_s (fun j hj => sh_ne (i := 1) j hj) (sh_s (i := 1))
  exact k_semi h8 (fun σ9 τ9 s9 e9 l9 h9 => ⟨s9, e9, _, _, _, _, _, by omega, h9, tp3⟩)
theorem p_far (h : GS L u r σ0 τ0 s e A AL RI C W B N σ τ) (tp : TP A AL (sh C) (shW W) B) (hw : wix τ = nI 2) :
    Fin2 u r σ0 τ0 (TG L u r σ0 τ0 s RI N) (F9_parseFar σ u) (bd (F12_readFar τ) fun _ s => F12_must s (F12_isSign s 59)) := by
  have t := tp.2.2.2.2.2
  have tq := tl_4 (B 24) (B 25) (B 26)
  unfold F9_parseFar F12_readFar F12_readFar_p16
  simp only [bd_assoc, bd_bnd, bd_chk, bd_ite, bdS, bd_obind, bd_id, bd_u]
  rw [show (2402 : Int32) = nI 2402 from rfl]
  refine k_once h (go1 (wix_go (by omega) hw)) (b := 25) (bv := 4) (t' := tl (B 24) true (B 26)) (by decide) (by decide) (by rw [t]; exact tq.1) (by rw [t]; exact tq.2) (fun σ τ hb => b_must0 hb) (fun σ1 τ1 s1 e1 l1 h1 => ?_)
  have tp1 : TP (uV A 0 19 (tl (B 24) true (B 26))) AL (sh C) (shW W) (upB B 25 true) := tp.told (fun x j hj => uV_n hj) (by rw [uV_s]; rfl)
  refine k_num h1 (fun v σ2 τ2 s2 e2 v1 v2 l2 q2 h2 => ?_) (fun σ2 τ2 hb => ?_)
  rotate_left
  · repeat' with_reducible first | exact b_must0 (by assumption) | exact b_fin (by assumption) | refine b_must (by assumption) ?_ | refine b_count (by assumption) ?_ | refine b_le (by assumption) ?_ | refine b_eq (by assumption) ?_ | refine b_lt (by assumption) ?_ | refine b_ald (by omega) (by omega) ?_ | (refine b_cell (by assumption) rfl (by omega) (by omega) ?_; intro _ _)
  rw [q2]
  refine k_c9 h2 (fun σ3 h3 => ?_)
  refine k_m5 h3 rfl (by omega) (by omega) (fun τ3 h4 _ => ?_)
  have tp2 := tp1.top (i := 2) (v := v) (A' := uV (uV A 0 19 (tl (B 24) true (B 26))) 0 2 v) (c' := sh (upd C 2402 v)) (by omega) ⟨fun e => absurd e (by decide), fun e => absurd e (by decide), fun _ => ⟨v1, v2⟩, fun e => absurd e (by decide)⟩ (fun x j hj => uV_n hj) uV_s (fun j hj => sh_ne (i := 2) j hj) (sh_s (i := 2))
  exact k_semi h4 (fun σ9 τ9 s9 e9 l9 h9 => ⟨s9, e9, _, _, _, _, _, by omega, h9, tp2⟩)
theorem neg9 {v : Int32} (h1 : 0 ≤ v) (h2 : v ≤ 9) : (-9 ≤ v ∧ v ≤ 9) ∧ (-9 ≤ -v ∧ -v ≤ 9) := by
  have a := i32_le.mp h1
  have b := i32_le.mp h2
  have z0 : (0 : Int32).toInt = 0 := rfl
  have z9 : (9 : Int32).toInt = 9 := rfl
  have m9 : (-9 : Int32).toInt = -9 := rfl
  have n : (-v).toInt = -v.toInt := i32_neg (by omega)
  exact ⟨⟨i32_le.mpr (by omega), h2⟩, i32_le.mpr (by omega), i32_le.mpr (by omega)⟩
theorem p_wind (h : GS L u r σ0 τ0 s e A AL RI C W B N σ τ) (tp : TP A AL (sh C) (shW W) B) (hw : wix τ = nI 3) :
    Fin2 u r σ0 τ0 (TG L u r σ0 τ0 s RI N) (F9_parseWind σ u) (bd (F12_readWind τ) fun _ s => F12_must s (F12_isSign s 59)) := by
  have t := tp.2.2.2.2.2
  have tq := tl_8 (B 24) (B 25) (B 26)
  unfold F9_parseWind F12_readWind F12_readWind_p16
  simp only [bd_assoc, bd_bnd, bd_chk, bd_ite, bdS, bd_obind, bd_id, bd_u]
  rw [show (2403 : Int32) = nI 2403 from rfl]
  refine k_once h (go1 (wix_go (by omega) hw)) (b := 26) (bv := 8) (t' := tl (B 24) (B 25) true) (by decide) (by decide) (by rw [t]; exact tq.1) (by rw [t]; exact tq.2) (fun σ τ hb => b_must0 hb) (fun σ1 τ1 s1 e1 l1 h1 => ?_)
  have tp1 : TP (uV A 0 19 (tl (B 24) (B 25) true)) AL (sh C) (shW W) (upB B 26 true) := tp.told (fun x j hj => uV_n hj) (by rw [uV_s]; rfl)
  refine k_num h1 (fun v σ2 τ2 s2 e2 v1 v2 l2 q2 h2 => ?_) (fun σ2 τ2 hb => ?_)
  rotate_left
  · repeat' with_reducible first | exact b_must0 (by assumption) | exact b_fin (by assumption) | refine b_must (by assumption) ?_ | refine b_count (by assumption) ?_ | refine b_le (by assumption) ?_ | refine b_eq (by assumption) ?_ | refine b_lt (by assumption) ?_ | refine b_ald (by omega) (by omega) ?_ | (refine b_cell (by assumption) rfl (by omega) (by omega) ?_; intro _ _)
  rw [bnd_eq, q2]
  refine k_m5 h2 rfl (by omega) (by omega) (fun τ3 h3 w3 => ?_)
  have h0 : ¬ 0 < gI τ3 12 0 0 12 := by rw [h3.2.1.1]; decide
  have eC : ald 3000 (gI τ3 12 0 5) (nI 2403) = some v := by rw [h3.2.2.2.1, ald_nI (by omega) (by omega)]; exact congrArg some upd_s
  obtain ⟨r1, r2⟩ := neg9 v1 v2
  rw [if_neg h0]
  by_cases kw : wix τ3 = nI 4
  · rw [h3.skip_yes (x := 4) (i := 4) rfl kw, if_pos ((w_left (τ := τ3)).mpr kw), eC, Option.bind_some]
    refine k_m5 h3 rfl (by omega) (by omega) (fun τ5 h5 w5 => ?_)
    obtain ⟨σ6, τ6, s6, e6, o6, o7, o8, o9, -⟩ := h5.nxt (go1 (wix_go (i := 4) (by omega) (w5.trans kw)))
    rw [o6, o7]
    simp only [bd_some, if_true]
    refine k_c9 o9 (fun σ7 h7 => ?_)
    have tp2 := tp1.top (i := 3) (v := -v) (A' := uV (uV A 0 19 (tl (B 24) (B 25) true)) 0 3 (-v)) (c' := sh (upd (upd C 2403 v) 2403 (-v))) (by omega) ⟨fun e => absurd e (by decide), fun e => absurd e (by decide), fun e => absurd e (by decide), fun _ => r2⟩ (fun x j hj => uV_n hj) uV_s (fun j hj => (sh_ne (i := 3) j hj).trans (sh_ne (i := 3) j hj)) (sh_s (i := 3))
    exact k_semi h7 (fun σ9 τ9 s9 e9 l9 h9 => ⟨s9, e9, _, _, _, _, _, by omega, h9, tp2⟩)
  · rw [h3.skip_no (x := 4) (i := 4) rfl kw, if_neg (fun e => kw ((w_left (τ := τ3)).mp e))]
    simp only [bd_some, Bool.false_eq_true, if_false]
    refine k_c9 h3 (fun σ5 h5 => ?_)
    have tp2 := tp1.top (i := 3) (v := v) (A' := uV (uV A 0 19 (tl (B 24) (B 25) true)) 0 3 v) (c' := sh (upd C 2403 v)) (by omega) ⟨fun e => absurd e (by decide), fun e => absurd e (by decide), fun e => absurd e (by decide), fun _ => r1⟩ (fun x j hj => uV_n hj) uV_s (fun j hj => sh_ne (i := 3) j hj) (sh_s (i := 3))
    exact k_semi h5 (fun σ9 τ9 s9 e9 l9 h9 => ⟨s9, e9, _, _, _, _, _, by omega, h9, tp2⟩)
end TRE
