section LWZ
variable {p : Program} {l : Launch} {e : Env} {s : State} {m : MethodId} {below : List Frame} {meth : Method} {c : Code} {D : va_G} {ad : Nat → Nat → Nat → Nat} {cid : Nat → Nat → Nat → ClassId} {b L : Nat} {xs : Nat → Int32} {nc ns : Nat} {σC σM : Mem} {i : Nat}
theorem lw_sw (j : Nat) (hj : j < 64) {x : Int32} (hx : x = nI j) (F : LF p s m meth c D ad cid b L xs) (hroom : nc ≤ 600000 ∧ ns ≤ 7302250) (hi : i + 9 ≤ L) (hR : Rel σC σM) (next : ∀ σC' σM' : Mem, Rel σC' σM' → LJ p l e s m below meth c D ad cid b nc ns (lsL ad b i) 2197 [] σC' σM') : LJ p l e s m below meth c D ad cid b nc ns (lsL ad b i) 33 [.int x] σC σM := by
  subst hx
  intro H Ls hL hC hM hS
  match j, hj with
  | 0, _ => exact lv_tableIn (off := 199) (tgt := 232) F.1.1 F.1.2.1 dL_33 (by decide +kernel) (by decide +kernel) (by decide +kernel) rfl (lw_c0 F hroom hi hR next H Ls hL hC hM hS)
  | 1, _ => exact lv_tableIn (off := 212) (tgt := 245) F.1.1 F.1.2.1 dL_33 (by decide +kernel) (by decide +kernel) (by decide +kernel) rfl (lw_c1 F hroom hi hR next H Ls hL hC hM hS)
  | 2, _ => exact lv_tableIn (off := 226) (tgt := 259) F.1.1 F.1.2.1 dL_33 (by decide +kernel) (by decide +kernel) (by decide +kernel) rfl (lw_c2 F hroom hi hR next H Ls hL hC hM hS)
  | 3, _ => exact lv_tableIn (off := 240) (tgt := 273) F.1.1 F.1.2.1 dL_33 (by decide +kernel) (by decide +kernel) (by decide +kernel) rfl (lw_c3 F hroom hi hR next H Ls hL hC hM hS)
  | 4, _ => exact lv_tableIn (off := 283) (tgt := 316) F.1.1 F.1.2.1 dL_33 (by decide +kernel) (by decide +kernel) (by decide +kernel) rfl (lw_c4 F hroom hi hR next H Ls hL hC hM hS)
  | 5, _ => exact lv_tableIn (off := 356) (tgt := 389) F.1.1 F.1.2.1 dL_33 (by decide +kernel) (by decide +kernel) (by decide +kernel) rfl (lw_c5 F hroom hi hR next H Ls hL hC hM hS)
  | 6, _ => exact lv_tableIn (off := 390) (tgt := 423) F.1.1 F.1.2.1 dL_33 (by decide +kernel) (by decide +kernel) (by decide +kernel) rfl (lw_c6 F hroom hi hR next H Ls hL hC hM hS)
  | 7, _ => exact lv_tableIn (off := 453) (tgt := 486) F.1.1 F.1.2.1 dL_33 (by decide +kernel) (by decide +kernel) (by decide +kernel) rfl (lw_c7 F hroom hi hR next H Ls hL hC hM hS)
  | 8, _ => exact lv_tableIn (off := 516) (tgt := 549) F.1.1 F.1.2.1 dL_33 (by decide +kernel) (by decide +kernel) (by decide +kernel) rfl (lw_c8 F hroom hi hR next H Ls hL hC hM hS)
  | 9, _ => exact lv_tableIn (off := 539) (tgt := 572) F.1.1 F.1.2.1 dL_33 (by decide +kernel) (by decide +kernel) (by decide +kernel) rfl (lw_c9 F hroom hi hR next H Ls hL hC hM hS)
  | 10, _ => exact lv_tableIn (off := 562) (tgt := 595) F.1.1 F.1.2.1 dL_33 (by decide +kernel) (by decide +kernel) (by decide +kernel) rfl (lw_c10 F hroom hi hR next H Ls hL hC hM hS)
  | 11, _ => exact lv_tableIn (off := 585) (tgt := 618) F.1.1 F.1.2.1 dL_33 (by decide +kernel) (by decide +kernel) (by decide +kernel) rfl (lw_c11 F hroom hi hR next H Ls hL hC hM hS)
  | 12, _ => exact lv_tableIn (off := 608) (tgt := 641) F.1.1 F.1.2.1 dL_33 (by decide +kernel) (by decide +kernel) (by decide +kernel) rfl (lw_c12 F hroom hi hR next H Ls hL hC hM hS)
  | 13, _ => exact lv_tableIn (off := 641) (tgt := 674) F.1.1 F.1.2.1 dL_33 (by decide +kernel) (by decide +kernel) (by decide +kernel) rfl (lw_c13 F hroom hi hR next H Ls hL hC hM hS)
  | 14, _ => exact lv_tableIn (off := 674) (tgt := 707) F.1.1 F.1.2.1 dL_33 (by decide +kernel) (by decide +kernel) (by decide +kernel) rfl (lw_c14 F hroom hi hR next H Ls hL hC hM hS)
  | 15, _ => exact lv_tableIn (off := 707) (tgt := 740) F.1.1 F.1.2.1 dL_33 (by decide +kernel) (by decide +kernel) (by decide +kernel) rfl (lw_c15 F hroom hi hR next H Ls hL hC hM hS)
  | 16, _ => exact lv_tableIn (off := 750) (tgt := 783) F.1.1 F.1.2.1 dL_33 (by decide +kernel) (by decide +kernel) (by decide +kernel) rfl (lw_c16 F hroom hi hR next H Ls hL hC hM hS)
  | 17, _ => exact lv_tableIn (off := 803) (tgt := 836) F.1.1 F.1.2.1 dL_33 (by decide +kernel) (by decide +kernel) (by decide +kernel) rfl (lw_c17 F hroom hi hR next H Ls hL hC hM hS)
  | 18, _ => exact lv_tableIn (off := 846) (tgt := 879) F.1.1 F.1.2.1 dL_33 (by decide +kernel) (by decide +kernel) (by decide +kernel) rfl (lw_c18 F hroom hi hR next H Ls hL hC hM hS)
  | 19, _ => exact lv_tableIn (off := 933) (tgt := 966) F.1.1 F.1.2.1 dL_33 (by decide +kernel) (by decide +kernel) (by decide +kernel) rfl (lw_c19 F hroom hi hR next H Ls hL hC hM hS)
  | 20, _ => exact lv_tableIn (off := 966) (tgt := 999) F.1.1 F.1.2.1 dL_33 (by decide +kernel) (by decide +kernel) (by decide +kernel) rfl (lw_c20 F hroom hi hR next H Ls hL hC hM hS)
  | 21, _ => exact lv_tableIn (off := 999) (tgt := 1032) F.1.1 F.1.2.1 dL_33 (by decide +kernel) (by decide +kernel) (by decide +kernel) rfl (lw_c21 F hroom hi hR next H Ls hL hC hM hS)
  | 22, _ => exact lv_tableIn (off := 1032) (tgt := 1065) F.1.1 F.1.2.1 dL_33 (by decide +kernel) (by decide +kernel) (by decide +kernel) rfl (lw_c22 F hroom hi hR next H Ls hL hC hM hS)
  | 23, _ => exact lv_tableIn (off := 1119) (tgt := 1152) F.1.1 F.1.2.1 dL_33 (by decide +kernel) (by decide +kernel) (by decide +kernel) rfl (lw_c23 F hroom hi hR next H Ls hL hC hM hS)
  | 24, _ => exact lv_tableIn (off := 1194) (tgt := 1227) F.1.1 F.1.2.1 dL_33 (by decide +kernel) (by decide +kernel) (by decide +kernel) rfl (lw_c24 F hroom hi hR next H Ls hL hC hM hS)
  | 25, _ => exact lv_tableIn (off := 1257) (tgt := 1290) F.1.1 F.1.2.1 dL_33 (by decide +kernel) (by decide +kernel) (by decide +kernel) rfl (lw_c25 F hroom hi hR next H Ls hL hC hM hS)
  | 26, _ => exact lv_tableIn (off := 1320) (tgt := 1353) F.1.1 F.1.2.1 dL_33 (by decide +kernel) (by decide +kernel) (by decide +kernel) rfl (lw_c26 F hroom hi hR next H Ls hL hC hM hS)
  | 27, _ => exact lv_tableIn (off := 1383) (tgt := 1416) F.1.1 F.1.2.1 dL_33 (by decide +kernel) (by decide +kernel) (by decide +kernel) rfl (lw_c27 F hroom hi hR next H Ls hL hC hM hS)
  | 28, _ => exact lv_tableIn (off := 1458) (tgt := 1491) F.1.1 F.1.2.1 dL_33 (by decide +kernel) (by decide +kernel) (by decide +kernel) rfl (lw_c28 F hroom hi hR next H Ls hL hC hM hS)
  | 29, _ => exact lv_tableIn (off := 1501) (tgt := 1534) F.1.1 F.1.2.1 dL_33 (by decide +kernel) (by decide +kernel) (by decide +kernel) rfl (lw_c29 F hroom hi hR next H Ls hL hC hM hS)
  | 30, _ => exact lv_tableIn (off := 1588) (tgt := 1621) F.1.1 F.1.2.1 dL_33 (by decide +kernel) (by decide +kernel) (by decide +kernel) rfl (lw_c30 F hroom hi hR next H Ls hL hC hM hS)
  | 31, _ => exact lv_tableIn (off := 1651) (tgt := 1684) F.1.1 F.1.2.1 dL_33 (by decide +kernel) (by decide +kernel) (by decide +kernel) rfl (lw_c31 F hroom hi hR next H Ls hL hC hM hS)
  | 32, _ => exact lv_tableIn (off := 1726) (tgt := 1759) F.1.1 F.1.2.1 dL_33 (by decide +kernel) (by decide +kernel) (by decide +kernel) rfl (lw_c32 F hroom hi hR next H Ls hL hC hM hS)
  | 33, _ => exact lv_tableIn (off := 1769) (tgt := 1802) F.1.1 F.1.2.1 dL_33 (by decide +kernel) (by decide +kernel) (by decide +kernel) rfl (lw_c33 F hroom hi hR next H Ls hL hC hM hS)
  | 34, _ => exact lv_tableIn (off := 1802) (tgt := 1835) F.1.1 F.1.2.1 dL_33 (by decide +kernel) (by decide +kernel) (by decide +kernel) rfl (lw_c34 F hroom hi hR next H Ls hL hC hM hS)
  | 35, _ => exact lv_tableIn (off := 1845) (tgt := 1878) F.1.1 F.1.2.1 dL_33 (by decide +kernel) (by decide +kernel) (by decide +kernel) rfl (lw_c35 F hroom hi hR next H Ls hL hC hM hS)
  | 36, _ => exact lv_tableIn (off := 1878) (tgt := 1911) F.1.1 F.1.2.1 dL_33 (by decide +kernel) (by decide +kernel) (by decide +kernel) rfl (lw_c36 F hroom hi hR next H Ls hL hC hM hS)
  | 37, _ => exact lv_tableIn (off := 1901) (tgt := 1934) F.1.1 F.1.2.1 dL_33 (by decide +kernel) (by decide +kernel) (by decide +kernel) rfl (lw_c37 F hroom hi hR next H Ls hL hC hM hS)
  | 38, _ => exact lv_tableIn (off := 1924) (tgt := 1957) F.1.1 F.1.2.1 dL_33 (by decide +kernel) (by decide +kernel) (by decide +kernel) rfl (lw_c38 F hroom hi hR next H Ls hL hC hM hS)
  | 39, _ => exact lv_tableIn (off := 1937) (tgt := 1970) F.1.1 F.1.2.1 dL_33 (by decide +kernel) (by decide +kernel) (by decide +kernel) rfl (lw_c39 F hroom hi hR next H Ls hL hC hM hS)
  | 40, _ => exact lv_tableIn (off := 2036) (tgt := 2069) F.1.1 F.1.2.1 dL_33 (by decide +kernel) (by decide +kernel) (by decide +kernel) rfl (lw_c40 F hroom hi hR next H Ls hL hC hM hS)
  | 41, _ => exact lv_tableIn (off := 2049) (tgt := 2082) F.1.1 F.1.2.1 dL_33 (by decide +kernel) (by decide +kernel) (by decide +kernel) rfl (lw_c41 F hroom hi hR next H Ls hL hC hM hS)
  | 42, _ => exact lv_tableIn (off := 2072) (tgt := 2105) F.1.1 F.1.2.1 dL_33 (by decide +kernel) (by decide +kernel) (by decide +kernel) rfl (lw_c42 F hroom hi hR next H Ls hL hC hM hS)
  | 43, _ => exact lv_tableIn (off := 2095) (tgt := 2128) F.1.1 F.1.2.1 dL_33 (by decide +kernel) (by decide +kernel) (by decide +kernel) rfl (lw_c43 F hroom hi hR next H Ls hL hC hM hS)
  | 44, _ => exact lv_tableIn (off := 2138) (tgt := 2171) F.1.1 F.1.2.1 dL_33 (by decide +kernel) (by decide +kernel) (by decide +kernel) rfl (lw_c44 F hroom hi hR next H Ls hL hC hM hS)
  | 45, _ => exact lv_tableIn (off := 2151) (tgt := 2184) F.1.1 F.1.2.1 dL_33 (by decide +kernel) (by decide +kernel) (by decide +kernel) rfl (lw_c45 F hroom hi hR next H Ls hL hC hM hS)
  | j + 46, hj =>
    have h9 : (45 : Int) < (nI (j + 46)).toInt := by rw [nI_toInt (by omega)]; omega
    exact lv_tableOut (tgt := 2197) F.1.1 F.1.2.1 dL_33 (Or.inr h9) rfl (next _ _ hR H Ls hL hC hM hS)
theorem lw_head {L i : Nat} (hL : L ≤ 4608) (hi : i < 5000) (h : ¬ nI L - (Int8.ofInt 9).toInt32 < nI i) : i + 9 ≤ L := by
  have e9 : (Int8.ofInt 9).toInt32 = nI 9 := by decide
  rw [e9] at h
  rcases Nat.lt_or_ge L 9 with q | q
  · exact absurd (Int32.lt_of_lt_of_le ((by decide : ∀ k, k < 9 → nI k - nI 9 < 0) L q) (nI_pos' (by omega))) h
  · rw [pk_sub q] at h
    rcases Nat.lt_or_ge L (i + 9) with q2 | q2
    · exact absurd (nI_lt (by omega) (by omega)) h
    · exact q2
/-- THE LAW'S LOOP -/
theorem law_loop (F : LF p s m meth c D ad cid b L xs) (hroom : nc ≤ 600000 ∧ ns ≤ 7302250) : ∀ (n i : Nat) (σC σM : Mem), L < i + n → i ≤ L → Rel σC σM → LJ p l e s m below meth c D ad cid b nc ns (lsL ad b i) 18 [] σC σM := by
  intro n
  induction n with
  | zero => intro i σC σM h1 h2; omega
  | succ n ih =>
    intro i σC σM h1 h2 hR H Ls hL hC hM hS
    have hL4 := F.2.1
    refine lv_iload_n F.1.1 F.1.2.1 dL_18 rfl (lv_at hL 3 rfl) ?_
    refine lv_aload_n F.1.1 F.1.2.1 dL_19 rfl (lv_at hL 0 rfl) ?_
    refine va_slen F.1.1 F.1.2.1 F.1.2.2.2.2.2.2.1 F.1.2.2.2.2.2.2.2.1 (Nat.not_le.mpr F.1.2.2.2.2.2.2.2.1) hS dL_20 ?_
    refine lv_bipush F.1.1 F.1.2.1 dL_21 rfl ?_
    refine lv_isub F.1.1 F.1.2.1 dL_23 ?_
    refine lv_icmp_gt (tgt := 2203) F.1.1 F.1.2.1 dL_24 rfl (fun _ => ?_) (fun hc => ?_)
    · refine lv_iconst (v := 1) F.1.1 F.1.2.1 dL_2203 rfl ?_
      refine W.widen (k := 600000) (n := 7302250) hroom.1 hroom.2 ?_
      exact lw_ret F.1.1 F.1.2.1 F.1.2.2.1 F.1.2.2.2.2.2.2.2.2.1 dL_2204
    · have hi := lw_head hL4 (by omega) hc
      refine lv_aload_n F.1.1 F.1.2.1 dL_27 rfl (lv_at hL 0 rfl) ?_
      refine lv_iload_n F.1.1 F.1.2.1 dL_28 rfl (lv_at hL 3 rfl) ?_
      refine (lw_sld (xs := xs) (L := L) (i := i) rfl (by omega) F dL_29 (fun H Ls hL hC hM hS => ?_)) H Ls hL hC hM hS
      refine lv_bipush F.1.1 F.1.2.1 dL_30 rfl ?_
      refine lv_iand F.1.1 F.1.2.1 dL_32 ?_
      obtain ⟨j, hj, ej⟩ := pk_andE (xs i) (m := 63) 6 (by decide)
      refine lw_sw j hj (x := xs i &&& (Int8.ofInt 63).toInt32) ej F hroom hi hR (fun σC' σM' hR' => ?_) H Ls hL hC hM hS
      intro H Ls hL hC hM hS
      refine lv_iinc (v := nI (i + 9)) (lv' := [(3, .int (nI (i + 9))), (0, .ref b), (1, .ref (ad 11 0 0)), (2, .ref (ad 12 0 0))]) F.1.1 F.1.2.1 dL_2197 hL (k := 3) rfl (nI_add i 9) (by decide) rfl (fun Ls hL => ?_)
      refine lv_goto (tgt := 18) F.1.1 F.1.2.1 dL_2200 rfl ?_
      exact ih (i + 9) σC' σM' (by omega) (by omega) hR' H Ls (lv_sub hL [1, 2, 3, 0] rfl) hC hM hS
end LWZ
