/-! PURE. tent: rings. -/
section TRF
variable {σ τ σ1 τ1 σ2 τ2 σ0 τ0 : Mem} {L u r s e k : Nat} {A A1 RI : VI} {AL AL1 : VL} {C C1 : Nat → Int32} {W W1 : Nat → Int64} {B : Nat → Bool} {N : Int32} {G : Mem → Mem → Prop}
theorem k_c9Li (h : GS L u r σ0 τ0 s e A AL RI C W B N σ τ) {n c j : Nat} {v : Int64} {K : Mem → Option (Bool × Mem)} {Y : Option (Unit × Mem)} (hj : j < n) (hn : n < 1000)
    (ok : ∀ σ', σ' = sL σ 9 u c j v → GS L u r σ0 τ0 s e A (uVL AL c j v) RI C W B N σ' τ → Fin2 u r σ0 τ0 G (K σ') Y) : Fin2 u r σ0 τ0 G (chk n (nI j) <| bnd (sL σ 9 u c (Int32.toNatClampNeg (nI j)) v) fun s => K s) Y := by
  rw [chk_nI hj (by omega), bnd_eq, cl_nI (by omega)]
  exact ok _ rfl h.c9L
theorem GS.a (h : GS L u r σ0 τ0 s e A AL RI C W B N σ τ) (c j : Nat) : gI σ 9 u c j = A c j := by rw [h.2.2.1.1]
theorem GS.cc (h : GS L u r σ0 τ0 s e A AL RI C W B N σ τ) : gI τ 12 0 5 = C := h.2.2.2.1
def moM (τ : Mem) (k : Nat) : Int32 := if k = 0 then 60 else gI τ 12 0 5 (2408 + k) - 1
def leM (τ : Mem) (k : Nat) : Int32 := if k = 0 then 1 else gI τ 12 0 5 (2414 + k) + 1
theorem r_p25 (hk : k ≤ 6) : F12_readRing_p25 τ (nI k) = if gI τ 12 0 0 12 ≤ 0 then (bd (F12_next τ) fun _ s => F12_readRing_p62 s (nI k) true (moM s k)) else some ((), τ) := by
  unfold F12_readRing_p25 moM
  by_cases z : k = 0
  · subst z
    simp only [if_true]
    rfl
  · have e : (2409 : Int32) + nI k - 1 = nI (2408 + k) := by rw [show (2409 : Int32) + nI k = nI (2409 + k) from nI_add 2409 k, show (1 : Int32) = nI 1 from rfl, pk_sub (by omega)]; exact congrArg nI (by omega)
    simp only [if_neg z, if_neg (nI_ne0 (show 0 < k by omega) (by omega)), e, ald_nI (show 2408 + k < 3000 by omega) (show 3000 < 2147483648 by omega), Option.bind_some]
theorem r_p62 (hk : k ≤ 6) (q : Int32) : F12_readRing_p62 τ (nI k) true q = bd (F12_count τ 1 q) fun v s => bd (F12_must s (F12_isWorth s)) fun _ s' => F12_readRing_p97 s' (nI k) v (leM s' k) := by
  unfold F12_readRing_p62 leM
  rw [show b2i true = 1 from rfl]
  by_cases z : k = 0
  · subst z
    simp only [if_true]
    rfl
  · have e : (2415 : Int32) + nI k - 1 = nI (2414 + k) := by rw [show (2415 : Int32) + nI k = nI (2415 + k) from nI_add 2415 k, show (1 : Int32) = nI 1 from rfl, pk_sub (by omega)]; exact congrArg nI (by omega)
    simp only [if_neg z, if_neg (nI_ne0 (show 0 < k by omega) (by omega)), e, ald_nI (show 2414 + k < 3000 by omega) (show 3000 < 2147483648 by omega), Option.bind_some]
theorem c_ringN (e4 : gI σ 9 u 0 4 = nI k) (hk : k < 6) : F9_parseRing σ u = F9_parseRing_p66 σ u (if k = 0 then 60 else gI σ 9 u 1 (k - 1) - 1) (if k = 0 then 1 else gI σ 9 u 2 (k - 1) + 1) := by
  unfold F9_parseRing F9_parseRing_p41
  rw [e4, if_pos (show nI k < (6 : Int32) from nI_lt (b := 6) hk (by omega))]
  by_cases z : k = 0
  · subst z
    rw [if_pos (show nI 0 = 0 from rfl), if_pos (show nI 0 = 0 from rfl), if_pos rfl, if_pos rfl]
  · have e : nI k - 1 = nI (k - 1) := by rw [show (1 : Int32) = nI 1 from rfl, pk_sub (by omega)]
    rw [if_neg z, if_neg z, if_neg (nI_ne0 (by omega) (by omega)), e, ald_nI (by omega) (by omega), Option.bind_some, if_neg (nI_ne0 (by omega) (by omega)), ald_nI (by omega) (by omega), Option.bind_some]
theorem p_ring (h : GS L u r σ0 τ0 s e A AL RI C W B N σ τ) (tp : TP A AL (sh C) (shW W) B) (hw : wix τ = nI 5) :
    Fin2 u r σ0 τ0 (TG L u r σ0 τ0 s RI N) (F9_parseRing σ u) (bd (F12_readRing τ) fun _ s => F12_must s (F12_isSign s 59)) := by
  have g := go1 (wix_go (i := 5) (by omega) hw)
  have n4 := ok_n4 tp.1
  obtain ⟨k, hk, ek⟩ : ∃ k, k ≤ 6 ∧ sh C 4 = nI k := ⟨nat (sh C 4), n4, ok_i4 tp.1⟩
  have eA : gI σ 9 u 0 4 = nI k := by rw [h.a, tp.2.1.2.2.2.2.1, ek]
  have nk : nat (sh C 4) = k := by rw [ek]; exact nat_nI (by omega)
  unfold F12_readRing
  rw [h.cc, show (2404 : Int32) = nI 2404 from rfl, ald_nI (by omega) (by omega), Option.bind_some, show C 2404 = nI k from ek]
  simp only [bd_assoc, bd_bnd, bd_chk, bd_ite, bdS, bd_obind, bd_id, bd_u]
  by_cases k6 : k < 6
  rotate_left
  · obtain rfl : k = 6 := by omega
    obtain ⟨σ', o1, τ', o2, o3⟩ := h.bad (k := 6) (by decide) g.2
    unfold F9_parseRing
    rw [eA, if_neg (show ¬ nI 6 < 6 by decide), if_pos (show nI 6 = 6 from rfl), o1, bd_some, o2, bd_some, r_p25 (by omega), if_neg o3.n1, bd_some]
    exact (b_must0 o3).fin
  rw [c_ringN eA k6, if_neg (show ¬ nI k = 6 from fun e => by have := (nI_eq (a := k) (b := 6) (by omega) (by omega)).mp e; omega), r_p25 (by omega), if_pos h.ok]
  simp only [r_p62 (show k ≤ 6 by omega)]
  unfold F9_parseRing_p66
  simp only [bd_assoc, bd_bnd, bd_chk, bd_ite, bdS, bd_obind, bd_id, bd_u]
  obtain ⟨σ1, τ1, s1, e1, o1, o2, l1, h1, -⟩ := h.nxt g
  rw [o1, o2, bd_some, bd_some]
  have eM : moM τ1 k = (if k = 0 then 60 else gI σ 9 u 1 (k - 1) - 1) := by
    unfold moM
    by_cases z : k = 0
    · rw [if_pos z, if_pos z]
    · have := (tp.2.1.2.2.2.2.2.2.2.1 (k - 1) (by omega)).1
      rw [if_neg z, if_neg z, h1.cc, h.a, this]
      show C (2408 + k) - 1 = C (2400 + (9 + (k - 1))) - 1
      rw [show 2400 + (9 + (k - 1)) = 2408 + k by omega]
  rw [eM]
  generalize hmo : (if k = 0 then 60 else gI σ 9 u 1 (k - 1) - 1) = mo
  generalize hle : (if k = 0 then 1 else gI σ 9 u 2 (k - 1) + 1) = le
  have eL : ∀ τ', gI τ' 12 0 5 = C → leM τ' k = le := by
    intro τ' hc
    rw [← hle]
    unfold leM
    by_cases z : k = 0
    · rw [if_pos z, if_pos z]
    · have := (tp.2.1.2.2.2.2.2.2.2.1 (k - 1) (by omega)).2
      rw [if_neg z, if_neg z, hc, h.a, this]
      show C (2414 + k) + 1 = C (2400 + (15 + (k - 1))) + 1
      rw [show 2400 + (15 + (k - 1)) = 2414 + k by omega]
  have e1 : gI σ1 9 u 0 4 = nI k := by rw [h1.a, ← h.a, eA]
  refine k_num h1 (fun v σ2 τ2 s2 e2 v1 v2 l2 q2 h2 => ?_) (fun σ2 τ2 hb => ?_)
  rotate_left
  · refine b_must hb ?_
    unfold F12_readRing_p97
    simp only [bd_assoc, bd_bnd, bd_chk, bd_ite, bdS, bd_obind, bd_id, bd_u]
    refine b_count hb ?_
    exact b_le hb (b_must0 hb)
  rw [show gI σ2 9 u 0 4 = nI k by rw [h2.a, ← h.a, eA], q2]
  refine k_c9i h2 (by omega) (by omega) (fun σ3 h3 _ => ?_)
  refine k_word h3 6 (by omega) rfl (w_worth) (fun σ5 τ5 s5 e5 l5 _ h5 => ?_) (fun σ5 τ5 hb => ?_)
  rotate_left
  · unfold F12_readRing_p97
    simp only [bd_assoc, bd_bnd, bd_chk, bd_ite, bdS, bd_obind, bd_id, bd_u]
    refine b_count hb ?_
    exact b_le hb (b_must0 hb)
  rw [eL τ5 h5.cc]
  unfold F12_readRing_p97
  simp only [bd_assoc, bd_bnd, bd_chk, bd_ite, bdS, bd_obind, bd_id, bd_u]
  rw [show (2409 : Int32) + nI k = nI (2409 + k) from nI_add 2409 k, show (2415 : Int32) + nI k = nI (2415 + k) from nI_add 2415 k, show (2404 : Int32) = nI 2404 from rfl]
  refine k_num h5 (fun v' σ6 τ6 s6 e6 v1' v2' l6 q6 h6 => ?_) (fun σ6 τ6 hb => ?_)
  rotate_left
  · exact b_le hb (b_must0 hb)
  rw [if_pos h6.ok, show gI σ6 9 u 0 4 = nI k by rw [h6.a, uV_n (by omega), ← h.a, eA], q6]
  refine k_c9i h6 (by omega) (by omega) (fun σ7 h7 _ => ?_)
  rw [show gI σ7 9 u 0 4 = nI k by rw [h7.a, uV_n (by omega), uV_n (by omega), ← h.a, eA], nI_1]
  refine k_c9 h7 (fun σ8 h8 => ?_)
  refine k_m5 h8 rfl (by omega) (by omega) (fun τ9 h9 _ => ?_)
  refine k_m5 h9 rfl (by omega) (by omega) (fun τ10 h10 _ => ?_)
  have e4 : gI τ10 12 0 5 2404 = nI k := by rw [h10.cc, upd_ne (by omega), upd_ne (by omega)]; exact ek
  rw [ald_nI (by omega) (by omega), Option.bind_some, e4, nI_1]
  refine k_m5 h10 rfl (by omega) (by omega) (fun τ11 h11 _ => ?_)
  have z60 : (60 : Int32).toInt = 60 := rfl
  have z20 : (20 : Int32).toInt = 20 := rfl
  have z1 : (1 : Int32).toInt = 1 := rfl
  have iv1 := i32_le.mp v1
  have iv2 := i32_le.mp v2
  have iv1' := i32_le.mp v1'
  have iv2' := i32_le.mp v2'
  have bnds : (∀ l, l + 1 = k → mo.toInt = (sh C (9 + l)).toInt - 1 ∧ le.toInt = (sh C (15 + l)).toInt + 1 ∧ (sh C (9 + l)).toInt ≤ 60 ∧ 1 ≤ (sh C (15 + l)).toInt) ∧ (k = 0 → mo.toInt = 60 ∧ le.toInt = 1) := by
    refine ⟨fun l hl => ?_, fun z => ?_⟩
    · have hl2 := tp.2.1.2.2.2.2.2.2.2.1 l (by omega)
      have o7 := tp.1.2.2.2.2.2.2.2.1 l (by omega)
      obtain ⟨b1, b2⟩ := b32 o7.1
      obtain ⟨b3, b4⟩ := b32 o7.2
      rw [z1] at b1 b3; rw [z60] at b2; rw [z20] at b4
      have k1 : k - 1 = l := by omega
      refine ⟨?_, ?_, b2, b3⟩
      · rw [← hmo, if_neg (by omega), k1, h.a, hl2.1, i32_sub] <;> rw [z1] <;> omega
      · rw [← hle, if_neg (by omega), k1, h.a, hl2.2, i32_add] <;> rw [z1] <;> omega
    · rw [← hmo, ← hle, if_pos z, if_pos z]; exact ⟨rfl, rfl⟩
  have two : k = 0 ∨ ∃ l, l + 1 = k := by
    by_cases z : k = 0
    · exact .inl z
    · exact .inr ⟨k - 1, by omega⟩
  have ra : 1 ≤ v ∧ v ≤ 60 := by
    refine ⟨v1, i32_le.mpr ?_⟩
    rw [z60]
    rcases two with z | ⟨l, hl⟩
    · have := bnds.2 z; omega
    · have := bnds.1 l hl; omega
  have rb : 1 ≤ v' ∧ v' ≤ 20 := by
    refine ⟨i32_le.mpr ?_, v2'⟩
    rw [z1]
    rcases two with z | ⟨l, hl⟩
    · have := bnds.2 z; omega
    · have := bnds.1 l hl; omega
  have tpN := tp.ring (k := k) (a := v) (b := v') (A' := uV (uV (uV A 1 k v) 2 k v') 0 4 (nI (k + 1))) (c' := sh (upd (upd (upd C (2409 + k) v) (2415 + k) v') 2404 (nI (k + 1)))) ek k6 ra rb
    (fun l hl => by have := bnds.1 l hl; exact ⟨i32_lt.mpr (by omega), i32_lt.mpr (by omega)⟩)
    (fun x j a1 a2 a3 => by rw [uV_n a3, uV_n a2, uV_n a1]) (by rw [uV_n (by omega), uV_n (by omega), uV_s]) (by rw [uV_n (by omega), uV_s]) uV_s
    (fun j a1 a2 a3 => by show upd _ _ _ (2400 + j) = C (2400 + j); rw [upd_ne (by omega), upd_ne (by omega), upd_ne (by omega)])
    (by show upd _ _ _ (2400 + (9 + k)) = v; rw [upd_ne (by omega), upd_ne (by omega), show 2400 + (9 + k) = 2409 + k by omega, upd_s])
    (by show upd _ _ _ (2400 + (15 + k)) = v'; rw [upd_ne (by omega), show 2400 + (15 + k) = 2415 + k by omega, upd_s])
    (by show upd _ _ _ 2404 = _; rw [upd_s])
  exact k_semi h11 (fun σ9 τ9 s9 e9 l9 h9 => ⟨s9, e9, _, _, _, _, _, by omega, h9, tpN⟩)
end TRF
