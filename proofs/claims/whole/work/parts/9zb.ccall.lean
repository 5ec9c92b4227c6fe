/-! a constructor's calls -/
theorem rmC_ok {lv lv' mc ms mc' ms' k : Nat} (h : lv' < lv) (hk : k ≤ 80) : (rmC lv' mc' ms').frames + 1 ≤ (rmC lv mc ms).frames ∧ 8 + (k + 11) + (rmC lv' mc' ms').locals ≤ (rmC lv mc ms).locals := by
  simp only [rmC]
  constructor <;> omega
theorem va_A_of {A : Nat → Prop} {wr wc : va_W} {H0 H : Heap} {locs : List Loc} (hD : va_D A (wr ++ wc)) (hS : va_S A H0 H locs) (hA : ∀ q, H0.size ≤ q → A q) : ∀ q, va_A wc H.size q → A q := fun q h => by
  rcases h with ⟨k, e, hk⟩ | h
  · exact (va_D_right hD).2 k _ hk
  · exact hA q (Nat.le_trans hS.1 h)
/-- the callee's world is ready -/
theorem cPre_of {D : va_G} {A : Nat → Prop} {wr wc : va_W} {tys t0 : TyL} (ht : ∀ q ∈ t0, q ∈ tys) {s U : State} {H : Heap} {locs : List Loc} (hP : va_P D vwCl (wr ++ wc) H) (hD : va_D A (wr ++ wc)) (hK : va_K D vwCl tys s) (hS : va_S A s.heap H locs) (hA : ∀ q, s.heap.size ≤ q → A q) (hZ : SPA A s s.heap) (hN : NW s) (hU : U.heap = H) (hW : s.WarmedH U.vm) : cPre D wc t0 H.size U := by
  refine ⟨by rw [hU], by rw [hU]; exact va_P_of hP fun q hq => List.mem_append_right _ hq, va_K_of (va_K.moved hW.alike hK) ht, (va_D_right hD).weaken (fun _ _ _ _ => trivial), NW.warm hW hN, ?_⟩
  rw [hU]
  exact ((hZ.kept hS.2.1).narrow (va_A_of hD hS hA)).warm hW
theorem cw_run {l : Launch} {D : va_G} {R : Room} {p : Program} {e : Env} {s : State} {m : MethodId} {args : Array Value} {below : List Frame} {meth : Method} {c : Code} {H : Heap} {locs : List Loc} {A : Nat → Prop} {L : Array Slot} {Q : State → Prop} {pc nc ns mc' ms' : Nat} {st0 rest : List Value} {wr wc : va_W} {tys : TyL} {E' : va_W → TyL → Prop} {aa : Array Value}
    (hr : va_Run p l e R s m args below meth c H locs nc ns mc' ms' (F0 m pc L st0) rest (cC D E' (va_A wc H.size) aa) (va_A wc H.size))
    (hP : va_P D vwCl (wr ++ wc) H) (hD : va_D A (wr ++ wc)) (hK : va_K D vwCl tys s) (hS : va_S A s.heap H locs) (hA : ∀ q, s.heap.size ≤ q → A q)
    (kk : ∀ (H1 : Heap) (locs1 : List Loc) (w1 : va_W) (t1 : TyL), E' w1 t1 → va_P D vwCl (wr ++ w1) H1 → va_D A (wr ++ w1) → va_K D vwCl (tys ++ t1) s → va_S A s.heap H1 locs1 → W p l e R s m args below meth c H1 locs1 (nc + mc') (ns + ms') Q (F0 m (pc + 3) L rest)) : W p l e R s m args below meth c H locs nc ns Q (F0 m pc L st0) := by
  have hAc := va_A_of hD hS hA
  intro T hT X0
  obtain ⟨v, st₀, t, T', LL, h0, X', hL, e1, e2, ⟨⟨hv, w1, t1, hE, hp, hk, hd⟩, hz, hkeep⟩, sst⟩ := hr T hT X0
  cases hv
  rw [h0] at hz hkeep
  have hPr : va_P D vwCl wr H := va_P_of hP fun q hq => List.mem_append_left _ hq
  have hout : ∀ (j : Nat) (q : Nat × va_E), wr[j]? = some q → q.1 < H.size ∧ ¬ va_A wc H.size q.1 := fun j q hq => by
    have hl := (hPr j q hq).lt
    refine ⟨hl, fun z => ?_⟩
    rcases z with ⟨i, x, hi⟩ | z
    · exact va_D_apart hD j i q (q.1, x) hq hi rfl
    · omega
  obtain ⟨t2, a1, b1⟩ := kk T'.heap (locs ++ LL) w1 t1 hE
    ((hPr.kept fun j q hq => by rw [e1]; exact hkeep q.1 (hout j q hq).1 (hout j q hq).2).app (by rw [e1]; exact hp))
    (va_D.app (va_D_left hD) (hd.weaken fun k q _ h => hAc q.1 h) fun i j x y hx hy hxy => (hout i x hx).2 (by rw [hxy]; exact hd.2 j y hy))
    (hK.app (va_K.moved (by rw [← e2]; exact X'.warmed.alike.symm) hk))
    ⟨Nat.le_trans hS.1 (by rw [e1]; exact hz), fun q h1 h2 => by rw [e1, hkeep q (Nat.lt_of_lt_of_le h1 hS.1) (fun z => h2 (hAc q z))]; exact hS.2.1 q h1 h2, fun q hq => by
      rcases List.mem_append.mp hq with h | h
      · exact hS.2.2 q h
      · exact hAc _ (hL q h)⟩ T' rfl X'
  exact ⟨t2, sst t2 a1, b1⟩
section CWC
variable {l : Launch} {D : va_G} {Y Y' : MD} {lv lv' mc ms mc' ms' : Nat} {E E' : va_W → TyL → Prop} {ls : List (Nat × Value)} {pc idx n q : Nat} {st : List Value} {ws wr wc : va_W} {tys : TyL} {nc ns : Nat} {As : List Value}
theorem cw_callI (hM : CM l D Y' lv' mc' ms' [.ref q] wc [] E') (hws : ws = wr ++ wc) (hlv : lv' < lv) (hok : MOK Y' 0) (hret : Y'.2.2.2 = none) (hnm : Y'.1.name = "<init>") (hin : Cond.instanceMethod Y'.1 ∈ Gw) (hli : Cond.methodLink Y.1.cls idx Y'.1 ∈ Gw) (hro : (st.map fun v => v.category).sum ≤ 8) (hdg : decode Y.2.1 pc = .ok (.invokespecial idx, 3)) (hcells : nc + mc' ≤ mc) (hslots : ns + ms' ≤ ms)
    (k : ∀ (w1 : va_W) (t1 : TyL), E' w1 t1 → CW l D Y lv mc ms E ls (pc + 3) st (wr ++ w1) (tys ++ t1) (nc + mc') (ns + ms')) : CW l D Y lv mc ms E ls pc (.ref q :: st) ws tys nc ns :=
  fun p e s m args below meth c H locs A L hc hL hP hD hK hS hA hZ => by
    subst hws
    obtain ⟨hx, hb, hml, hown, hts, hrt, hlk, hmn, hN⟩ := hc
    refine cw_run (wr := wr) (wc := wc) (va_runI (As := []) (rest := st) ⟨hx, hb, hml, hown, hts⟩ (hM H.size) ⟨callB_of 0 hts (good_ws hok) (by rw [← hret]; rfl) rfl rfl (hts _ hok.2.1) (hts _ hli) hok.2.2.1 (rmC_ok hlv hok.2.2.2), hnm, hts _ hin⟩ ⟨cm_blind, fun U hU hW => ⟨rfl, cPre_of (fun q hq => by cases hq) hP hD hK hS hA hZ hN hU hW⟩⟩ rfl rfl hL.1 rfl (lv_room hro) hdg ⟨hcells, hslots⟩) hP hD hK hS hA (fun H1 locs1 w1 t1 hE hP1 hD1 hK1 hS1 => ?_)
    exact k w1 t1 hE p e s m args below meth c H1 locs1 A L ⟨hx, hb, hml, hown, hts, hrt, hlk, hmn, hN⟩ hL hP1 hD1 hK1 hS1 hA hZ
theorem cw_callIN {host : String} (hM : CM l D Y' lv' mc' ms' [.ref q] wc [] E') (hws : ws = wr ++ wc) (hlv : lv' < lv) (hok : MOK Y' 0) (hret : Y'.2.2.2 = none) (hnm : Y'.1.name = "<init>") (hin : Cond.instanceMethod Y'.1 ∈ Gw) (hli : (Y.1.cls, idx, Y'.1, host) ∈ nestW) (hro : (st.map fun v => v.category).sum ≤ 8) (hdg : decode Y.2.1 pc = .ok (.invokespecial idx, 3)) (hcells : nc + mc' ≤ mc) (hslots : ns + ms' ≤ ms)
    (k : ∀ (w1 : va_W) (t1 : TyL), E' w1 t1 → CW l D Y lv mc ms E ls (pc + 3) st (wr ++ w1) (tys ++ t1) (nc + mc') (ns + ms')) : CW l D Y lv mc ms E ls pc (.ref q :: st) ws tys nc ns :=
  fun p e s m args below meth c H locs A L hc hL hP hD hK hS hA hZ => by
    subst hws
    obtain ⟨hx, hb, hml, hown, hts, hrt, hlk, hmn, hN⟩ := hc
    refine cw_run (wr := wr) (wc := wc) (va_runIN (As := []) (rest := st) ⟨hx, hb, hml, hown, hts⟩ (hM H.size) ⟨va_cnB (host := host) 0 hts (good_ws hok) (by rw [← hret]; rfl) rfl rfl (hN _ hli) (hts _ hok.2.1) hok.2.2.1 (rmC_ok hlv hok.2.2.2), hnm, hts _ hin⟩ ⟨cm_blind, fun U hU hW => ⟨rfl, cPre_of (fun q hq => by cases hq) hP hD hK hS hA hZ hN hU hW⟩⟩ rfl rfl hL.1 rfl (lv_room hro) hdg ⟨hcells, hslots⟩) hP hD hK hS hA (fun H1 locs1 w1 t1 hE hP1 hD1 hK1 hS1 => ?_)
    exact k w1 t1 hE p e s m args below meth c H1 locs1 A L ⟨hx, hb, hml, hown, hts, hrt, hlk, hmn, hN⟩ hL hP1 hD1 hK1 hS1 hA hZ
theorem cw_callV {T : u_T} {N ci qk : Nat} {ty : Nat → FieldType} {fs : List Value} {t0 : TyL} (hM : CM l D Y' lv' mc' ms' (.ref q :: As) wc t0 E') (ht : ∀ q ∈ t0, q ∈ tys) (hws : ws = wr ++ wc) (hci : CI ci Y'.1.cls T N ty) (hq : ws[qk]? = some (q, .inr (ci, fs))) (hlv : lv' < lv) (hok : MOK Y' n) (hin : Cond.instanceMethod Y'.1 ∈ Gw) (hse : Cond.selects Y'.1.cls Y'.1 Y'.1 ∈ Gw) (hli : Cond.methodLink Y.1.cls idx Y'.1 ∈ Gw) (hn : As.length = n) {st0 : List Value} (hst : st0 = As.reverse ++ .ref q :: st) (hro : (st.map fun v => v.category).sum ≤ 8) (hdg : decode Y.2.1 pc = .ok (.invokevirtual idx, 3)) (hcells : nc + mc' ≤ mc) (hslots : ns + ms' ≤ ms)
    (k : ∀ (w1 : va_W) (t1 : TyL), E' w1 t1 → CW l D Y lv mc ms E ls (pc + 3) st (wr ++ w1) (tys ++ t1) (nc + mc') (ns + ms')) : CW l D Y lv mc ms E ls pc st0 ws tys nc ns :=
  fun p e s m args below meth c H locs A L hc hL hP hD hK hS hA hZ => by
    subst hws
    obtain ⟨hx, hb, hml, hown, hts, hrt, hlk, hmn, hN⟩ := hc
    refine cw_run (wr := wr) (wc := wc) (va_runV (As := As) (rest := st) ⟨hx, hb, hml, hown, hts⟩ (hM H.size) ⟨callB_of n hts (good_ws hok) rfl rfl rfl (hts _ hok.2.1) (hts _ hli) hok.2.2.1 (rmC_ok hlv hok.2.2.2), hts _ hin, hts _ hse⟩ ⟨cm_blind, va_recv hK hP hci.1 hq, fun U hU hW => ⟨rfl, cPre_of ht hP hD hK hS hA hZ hN hU hW⟩⟩ rfl hn hL.1 hst (lv_room hro) hdg ⟨hcells, hslots⟩) hP hD hK hS hA (fun H1 locs1 w1 t1 hE hP1 hD1 hK1 hS1 => ?_)
    exact k w1 t1 hE p e s m args below meth c H1 locs1 A L ⟨hx, hb, hml, hown, hts, hrt, hlk, hmn, hN⟩ hL hP1 hD1 hK1 hS1 hA hZ
end CWC
theorem perm2 (o r : va_W) (x : Nat × va_E) : ((o ++ r) ++ [x]).Perm ((o ++ [x]) ++ r) := by
  rw [List.append_assoc, List.append_assoc]
  exact List.perm_append_comm.append_left o
theorem perm3 (o r b : va_W) : ((o ++ r) ++ b).Perm (o ++ (b ++ r)) := by
  rw [List.append_assoc]
  exact List.perm_append_comm.append_left o
/-- an array of references told otherwise -/
theorem cw_q {l : Launch} {D : va_G} {Y : MD} {lv mc ms : Nat} {E : va_W → TyL → Prop} {ls : List (Nat × Value)} {pc : Nat} {st : List Value} {ws ws' : va_W} {tys : TyL} {nc ns a n : Nat} {cA : ClassId} {f g : Nat → Option Nat} (q0 : Nat) (ha : ws[q0]? = some (a, .inl (cA, n, .inr (.inr (.inr (.inr f)))))) (hfg : ∀ k, k < n → f k = g k) (hws : ws.set q0 (a, .inl (cA, n, .inr (.inr (.inr (.inr g))))) = ws')
    (k : CW l D Y lv mc ms E ls pc st ws' tys nc ns) : CW l D Y lv mc ms E ls pc st ws tys nc ns := by
  subst hws
  have hl : q0 < ws.length := (List.getElem?_eq_some_iff.mp ha).1
  have key : ∀ (j : Nat) (q : Nat × va_E), (ws.set q0 (a, .inl (cA, n, .inr (.inr (.inr (.inr g))))))[j]? = some q → (j = q0 ∧ q = (a, .inl (cA, n, .inr (.inr (.inr (.inr g)))))) ∨ ws[j]? = some q := by
    intro j q hq
    rw [List.getElem?_set] at hq
    by_cases h : q0 = j
    · rw [if_pos h, if_pos (h ▸ hl)] at hq
      exact Or.inl ⟨h.symm, (Option.some.inj hq).symm⟩
    · rw [if_neg h] at hq
      exact Or.inr hq
  have ad : ∀ (j : Nat) (q : Nat × va_E), (ws.set q0 (a, .inl (cA, n, .inr (.inr (.inr (.inr g))))))[j]? = some q → ∃ z, ws[j]? = some (q.1, z) := by
    intro j q hq
    rcases key j q hq with ⟨rfl, rfl⟩ | h
    · exact ⟨_, ha⟩
    · exact ⟨q.2, h⟩
  intro p e s m args below meth c H locs A L hc hL hP hD hK hS hA hZ
  refine k p e s m args below meth c H locs A L hc hL (fun j q hq => ?_) ⟨fun i j p q hi hj e => ?_, fun j q hq => ?_⟩ hK hS hA hZ
  · rcases key j q hq with ⟨rfl, rfl⟩ | h
    · have h0 := hP _ _ ha
      have e2 : vp_cell cA (n, .inr (.inr (.inr (.inr g)))) = vp_cell cA (n, .inr (.inr (.inr (.inr f)))) := by
        rw [vp_cell_q, vp_cell_q]
        unfold arrV
        congr 1
        refine Array.ext (by simp) fun i h1 h2 => ?_
        simp only [Array.size_ofFn] at h1
        simp [hfg i h1]
      show H[a]? = some (vp_cell cA (n, .inr (.inr (.inr (.inr g)))))
      rw [e2]
      exact h0
    · exact hP j q h
  · obtain ⟨z1, h1⟩ := ad i p hi
    obtain ⟨z2, h2⟩ := ad j q hj
    exact hD.1 i j _ _ h1 h2 e
  · obtain ⟨z1, h1⟩ := ad j q hq
    exact hD.2 j (q.1, z1) h1
