theorem j_isLetter {l : Launch} {adK adV : Nat → Nat} {fm : Value} (x : Int32) : JM l M8_isLetter 0 adK adV fm [.int x] (some (.int (b2i (F8_isLetter x)))) := by
  refine JM.ofW (by decide +kernel) (Nat.le_of_ble_eq_true rfl) (ls := [(0, .int x)]) rfl ?_
  intro p e s m args below meth c L ⟨hx, hb, hml, hown, hts, hrt, hlk⟩ hL hS
  refine lv_iload_n hx hb dX8_isLetter_0 rfl (lv_at hL 0 rfl) ?_
  refine lv_bipush (v := 97) hx hb dX8_isLetter_1 (by decide) ?_
  refine lv_icmp_lt (tgt := 16) hx hb dX8_isLetter_3 rfl (fun h => ?_) (fun h => ?_)
  · refine lv_iconst (v := 0) hx hb dX8_isLetter_16 (by decide) ?_
    rw [show F8_isLetter x = false by rw [F8_isLetter, if_pos h]]
    exact W.zret hx hb hrt (by decide) (fun t ht hW => ⟨rfl, ht⟩) (fun q hq => by cases hq) dX8_isLetter_17 hlk
  · refine lv_iload_n hx hb dX8_isLetter_6 rfl (lv_at hL 0 rfl) ?_
    refine lv_bipush (v := 122) hx hb dX8_isLetter_7 (by decide) ?_
    refine lv_icmp_gt (tgt := 16) hx hb dX8_isLetter_9 rfl (fun h2 => ?_) (fun h2 => ?_)
    · refine lv_iconst (v := 0) hx hb dX8_isLetter_16 (by decide) ?_
      rw [show F8_isLetter x = false by rw [F8_isLetter, if_neg h, if_pos h2]]
      exact W.zret hx hb hrt (by decide) (fun t ht hW => ⟨rfl, ht⟩) (fun q hq => by cases hq) dX8_isLetter_17 hlk
    · refine lv_iconst (v := 1) hx hb dX8_isLetter_12 (by decide) ?_
      refine lv_goto (tgt := 17) hx hb dX8_isLetter_13 rfl ?_
      rw [show F8_isLetter x = true by rw [F8_isLetter, if_neg h, if_neg h2]]
      exact W.zret hx hb hrt (by decide) (fun t ht hW => ⟨rfl, ht⟩) (fun q hq => by cases hq) dX8_isLetter_17 hlk
theorem j_withLetter {l : Launch} {adK adV : Nat → Nat} {fm : Value} (y : Int64) (x : Int32) : JM l M8_withLetter 0 adK adV fm [.long y, .int x] (some (.long (F8_withLetter y x))) := by
  refine JM.ofW (by decide +kernel) (Nat.le_of_ble_eq_true rfl) (ls := [(0, .long y), (2, .int x)]) rfl ?_
  intro p e s m args below meth c L ⟨hx, hb, hml, hown, hts, hrt, hlk⟩ hL hS
  refine lv_lload_n hx hb dX8_withLetter_0 rfl (lv_at hL 0 rfl) ?_
  refine lv_ldc2 hx hb hown (hts _ w_253) dX8_withLetter_1 ?_
  refine lv_lmul hx hb dX8_withLetter_4 ?_
  refine lv_iload_n hx hb dX8_withLetter_5 rfl (lv_at hL 1 rfl) ?_
  refine lv_bipush (v := 97) hx hb dX8_withLetter_6 (by decide) ?_
  refine lv_isub hx hb dX8_withLetter_8 ?_
  refine lv_iconst (v := 1) hx hb dX8_withLetter_9 (by decide) ?_
  refine lv_iadd hx hb dX8_withLetter_10 ?_
  refine lv_i2l hx hb dX8_withLetter_11 rfl ?_
  refine lv_ladd hx hb dX8_withLetter_12 ?_
  exact W.lret hx hb hrt (fun t ht hW => ⟨rfl, ht⟩) (fun q hq => by cases hq) dX8_withLetter_13 hlk
theorem SPA.v {A : Nat → Prop} {s : State} {H : Heap} {locs : List Loc} (hZ : SPA A s s.heap) (hS : va_S A s.heap H locs) : ∃ (adK adV : Nat → Nat) (fm : Value), (fm = .null ∨ ∃ t : Nat, fm = .ref t) ∧ vk_R "PeaTube$Tape" 26 wordT (adK 0) s ∧ (∃ cell : Cell, H[adK 0]? = some cell ∧ cell.vm.isStatics = false ∧ s.vm.findClass "java/lang/String" = some cell.cls) ∧ ∀ U : State, U.heap = H → s.WarmedH U.vm → SPv adK adV fm U U.heap := by
  obtain ⟨-, adK, adV, fm, hf, h1, h2, h3, h4⟩ := id hZ
  refine ⟨adK, adV, fm, hf, h4, vk_recv h1 (by decide) hS, fun U hU hW => ?_⟩
  rw [hU]
  exact ⟨((h1.kept hS.2.1).narrow (fun _ h => False.elim h)).moved hW.alike, ((h2.kept hS.2.1).narrow (fun _ h => False.elim h)).moved hW.alike, ((h3.kept hS.2.1).narrow (fun _ h => False.elim h)).moved hW.alike⟩
theorem jm_blindA {av : List Value} {adK adV : Nat → Nat} {fm : Value} : FrameBlind (va_Pc av (fun U => SPv adK adV fm U U.heap)) := jm_blind
theorem rmCL_ok {lv lv' mc ms k : Nat} (h : lv' < lv) (hk : k ≤ 80) : (rmL lv').frames + 1 ≤ (rmC lv mc ms).frames ∧ 8 + (k + 11) + (rmL lv').locals ≤ (rmC lv mc ms).locals := by
  simp only [rmL, rmC]
  constructor <;> omega
section CW3
variable {l : Launch} {D : va_G} {Y Y' : MD} {lv lv' mc ms n : Nat} {E : va_W → TyL → Prop} {ls ls' : List (Nat × Value)} {pc idx : Nat} {st st0 As : List Value} {ws ws' : va_W} {tys : TyL} {nc ns : Nat}
theorem cw_ls (ks : List Nat) (hl : lv_pick ls ks = ls') (k : CW l D Y lv mc ms E ls' pc st ws tys nc ns) : CW l D Y lv mc ms E ls pc st ws tys nc ns :=
  fun p e s m args below meth c H locs A L hc hL hP hD hK hS hA hZ => k p e s m args below meth c H locs A L hc (lv_sub hL ks hl) hP hD hK hS hA hZ
theorem cw_iload2 {i : Nat} {x : Int32} (q : Nat) (hdg : decode Y.2.1 pc = .ok (.iload i, 2)) (hl : ls[q]? = some (i, .int x)) (k : CW l D Y lv mc ms E ls (pc + 2) (.int x :: st) ws tys nc ns) : CW l D Y lv mc ms E ls pc st ws tys nc ns :=
  fun p e s m args below meth c H locs A L hc hL hP hD hK hS hA hZ => lv_iload hc.1 hc.2.1 hdg (lv_at hL q hl) (k p e s m args below meth c H locs A L hc hL hP hD hK hS hA hZ)
theorem cw_istore2 {i : Nat} {x : Int32} (hdg : decode Y.2.1 pc = .ok (.istore i, 2)) (hn : i < Y.2.2.1) (hl : (i, Value.int x) :: ls.filter (fun q => !(q.1 == i) && !(q.1 + 1 == i && q.2.category == 2)) = ls') (k : CW l D Y lv mc ms E ls' (pc + 2) st ws tys nc ns) : CW l D Y lv mc ms E ls pc (.int x :: st) ws tys nc ns :=
  fun p e s m args below meth c H locs A L hc hL hP hD hK hS hA hZ => lv_istore hc.1 hc.2.1 hdg hL hn hl (fun L' hL' => k p e s m args below meth c H locs A L' hc hL' hP hD hK hS hA hZ)
theorem cw_lload {i : Nat} {j : Fin 4} {x : Int64} (q : Nat) (hdg : decode Y.2.1 pc = .ok (.lload_n j, 1)) (hi : (j : Nat) = i) (hl : ls[q]? = some (i, .long x)) (k : CW l D Y lv mc ms E ls (pc + 1) (.long x :: st) ws tys nc ns) : CW l D Y lv mc ms E ls pc st ws tys nc ns :=
  fun p e s m args below meth c H locs A L hc hL hP hD hK hS hA hZ => lv_lload_n hc.1 hc.2.1 hdg hi (lv_at hL q hl) (k p e s m args below meth c H locs A L hc hL hP hD hK hS hA hZ)
theorem cw_lstore {k' : Fin 4} {i : Nat} {x : Int64} (hdg : decode Y.2.1 pc = .ok (.lstore_n k', 1)) (hi : (k' : Nat) = i) (hn : i + 1 < Y.2.2.1) (hl : (i, Value.long x) :: ls.filter (fun q => !(q.1 == i) && (!(q.1 == i + 1) && !(q.1 + 1 == i && q.2.category == 2))) = ls') (k : CW l D Y lv mc ms E ls' (pc + 1) st ws tys nc ns) : CW l D Y lv mc ms E ls pc (.long x :: st) ws tys nc ns :=
  fun p e s m args below meth c H locs A L hc hL hP hD hK hS hA hZ => lv_lstore_n hc.1 hc.2.1 hdg hi hL hn hl (fun L' hL' => k p e s m args below meth c H locs A L' hc hL' hP hD hK hS hA hZ)
theorem cw_if_eq {x : Int32} {off : Int} (tgt : Nat) (hdg : decode Y.2.1 pc = .ok (.ifCond .eq off, 3)) (ht : (pc : Int) + off = (tgt : Int)) (kt : x = 0 → CW l D Y lv mc ms E ls tgt st ws tys nc ns) (kf : ¬ x = 0 → CW l D Y lv mc ms E ls (pc + 3) st ws tys nc ns) : CW l D Y lv mc ms E ls pc (.int x :: st) ws tys nc ns :=
  fun p e s m args below meth c H locs A L hc hL hP hD hK hS hA hZ => lv_if_eq hc.1 hc.2.1 hdg ht (fun h => kt h p e s m args below meth c H locs A L hc hL hP hD hK hS hA hZ) (fun h => kf h p e s m args below meth c H locs A L hc hL hP hD hK hS hA hZ)
theorem cw_last {a n : Nat} {cA : ClassId} {f : Nat → Int64} {i : Int32} {x : Int64} (q0 t0 : Nat) (ha : ws[q0]? = some (a, .inl (cA, n, .inr (.inl f)))) (ht : tys[t0]? = some (cA, .long)) (hin : vp_in i n) (hdg : decode Y.2.1 pc = .ok (.lastore, 1)) (hws : ws.set q0 (a, .inl (cA, n, .inr (.inl (vp_updL f i.toNatClampNeg x)))) = ws')
    (k : CW l D Y lv mc ms E ls (pc + 1) st ws' tys nc ns) : CW l D Y lv mc ms E ls pc (.long x :: .int i :: .ref a :: st) ws tys nc ns :=
  fun p e s m args below meth c H locs A L hc hL hP hD hK hS hA hZ => va_last hc.1 hc.2.1 hK hP hD hS q0 t0 ha ht hin hdg (fun H1 locs1 hP1 hD1 hS1 => k p e s m args below meth c H1 locs1 A L hc hL (hws ▸ hP1) (hws ▸ hD1) hK hS1 hA hZ)
/-- the string constant, its length -/
theorem cw_len (hY : Y.1.cls = "PeaTube$Tape") (hlv : 1 < lv) (hro : (st.map fun v => v.category).sum ≤ 8) (h0 : decode Y.2.1 pc = .ok (.ldc 26, 2)) (h1 : decode Y.2.1 (pc + 2) = .ok (.invokevirtual 28, 3)) (hcells : nc ≤ mc) (hslots : ns ≤ ms)
    (k : CW l D Y lv mc ms E ls (pc + 5) (.int 157 :: st) ws tys nc ns) : CW l D Y lv mc ms E ls pc st ws tys nc ns :=
  fun p e s m args below meth c H locs A L hc hL hP hD hK hS hA hZ => by
    obtain ⟨adK, adV, fm, hf, hR, hrec, hv⟩ := hZ.v hS
    obtain ⟨hx, hb, hml, hown, hts, hrt, hlk, hmn, hN⟩ := id hc
    rw [hY] at hown
    refine va_ldcS hx hb hown hR h0 ?_
    exact jm_run (va_runV (As := []) (rest := st) ⟨hx, hb, hml, hown, hts⟩ (j_length (adK := adK) (adV := adV) (fm := fm)) ⟨callB_of 0 hts (good_ws mk_J_length) rfl rfl rfl (hts _ mk_J_length.2.1) (hts _ w_199) mk_J_length.2.2.1 (rmCL_ok hlv mk_J_length.2.2.2), hts _ w_200, hts _ w_201⟩ ⟨jm_blind, hrec, fun U hU hW => ⟨rfl, hv U hU hW⟩⟩ rfl rfl hL.1 rfl (lv_room hro) h1 ⟨hcells, hslots⟩) (k p e s m args below meth c H locs A L hc hL hP hD hK hS hA hZ)
/-- its letter at k -/
theorem cw_chr {i : Nat} (q : Nat) (hq : ls[q]? = some (4, .int (nI i))) (hi : i < 157) (hY : Y.1.cls = "PeaTube$Tape") (hlv : 3 < lv) (hro : (st.map fun v => v.category).sum ≤ 8) (h0 : decode Y.2.1 pc = .ok (.ldc 26, 2)) (h2 : decode Y.2.1 (pc + 2) = .ok (.iload 4, 2)) (h1 : decode Y.2.1 (pc + 4) = .ok (.invokevirtual 34, 3)) (hcells : nc ≤ mc) (hslots : ns ≤ ms)
    (k : CW l D Y lv mc ms E ls (pc + 7) (.int (chr i) :: st) ws tys nc ns) : CW l D Y lv mc ms E ls pc st ws tys nc ns :=
  fun p e s m args below meth c H locs A L hc hL hP hD hK hS hA hZ => by
    obtain ⟨adK, adV, fm, hf, hR, hrec, hv⟩ := hZ.v hS
    obtain ⟨hx, hb, hml, hown, hts, hrt, hlk, hmn, hN⟩ := id hc
    rw [hY] at hown
    refine va_ldcS hx hb hown hR h0 ?_
    refine lv_iload hx hb h2 (lv_at hL q hq) ?_
    exact jm_run (va_runV (As := [.int (nI i)]) (rest := st) ⟨hx, hb, hml, hown, hts⟩ (j_charAt (adK := adK) (adV := adV) (fm := fm) hf hi) ⟨callB_of 1 hts (good_ws mk_J_charAt) rfl rfl rfl (hts _ mk_J_charAt.2.1) (hts _ w_209) mk_J_charAt.2.2.1 (rmCL_ok hlv mk_J_charAt.2.2.2), hts _ w_210, hts _ w_211⟩ ⟨jm_blind, hrec, fun U hU hW => ⟨rfl, hv U hU hW⟩⟩ rfl rfl hL.1 rfl (lv_room hro) h1 ⟨hcells, hslots⟩) (k p e s m args below meth c H locs A L hc hL hP hD hK hS hA hZ)
/-- a call that reads and writes nothing -/
theorem cw_jS {v : Value} (hM : ∀ (adK adV : Nat → Nat) (fm : Value), JM l Y' lv' adK adV fm As (some v)) (hlv : lv' < lv) (hok : MOK Y' n) (hsta : Cond.static Y'.1 ∈ Gw) (hli : Cond.methodLink Y.1.cls idx Y'.1 ∈ Gw) (hn : As.length = n) (hst : st0 = As.reverse ++ st) (hro : (st.map fun v => v.category).sum ≤ 8) (hdg : decode Y.2.1 pc = .ok (.invokestatic idx, 3)) (hcells : nc ≤ mc) (hslots : ns ≤ ms)
    (k : CW l D Y lv mc ms E ls (pc + 3) (v :: st) ws tys nc ns) : CW l D Y lv mc ms E ls pc st0 ws tys nc ns :=
  fun p e s m args below meth c H locs A L hc hL hP hD hK hS hA hZ => by
    obtain ⟨adK, adV, fm, hf, hR, hrec, hv⟩ := hZ.v hS
    obtain ⟨hx, hb, hml, hown, hts, hrt, hlk, hmn, hN⟩ := id hc
    exact jm_run (va_runS (As := As) (rest := st) ⟨hx, hb, hml, hown, hts⟩ (hM adK adV fm) ⟨callB_of n hts (good_ws hok) rfl rfl rfl (hts _ hok.2.1) (hts _ hli) hok.2.2.1 (rmCL_ok hlv hok.2.2.2), hts _ hsta⟩ ⟨jm_blind, fun U hU hW => ⟨rfl, hv U hU hW⟩⟩ rfl hn hL.1 hst (lv_room hro) hdg ⟨hcells, hslots⟩) (k p e s m args below meth c H locs A L hc hL hP hD hK hS hA hZ)
end CW3
