/-! the abstract walk: calls -/
def MOK (Y : MD) (n : Nat) : Prop := Cond.code Y.1 Y.2.1 Y.2.2.1 Y.2.2.2 ∈ Gw ∧ Cond.initialized Y.1.cls ∈ Gw ∧ (Y.1.cls ≠ "java/lang/invoke/MethodHandle" ∧ Y.1.cls ≠ "java/lang/invoke/VarHandle" ∧ (parseMethodDescriptor Y.1.desc).map (fun d => d.parameters.length) = some n) ∧ Y.2.2.1 ≤ 80
theorem good_ws {Y : MD} {n : Nat} (h : MOK Y n) : GoodIn Gw (wsY Y) := by
  intro w hw
  have hm : w ∈ Gw := (List.mem_cons.mp hw).elim (fun e => e ▸ h.1) id
  exact ⟨hm, good_of_word (List.mem_filter.mp hm).2⟩
theorem rm_ok {lv lv' k : Nat} (h : lv' < lv) (hk : k ≤ 80) : (rmL lv').frames + 1 ≤ (rmL lv).frames ∧ 8 + (k + 11) + (rmL lv').locals ≤ (rmL lv).locals := by
  simp only [rmL]
  constructor <;> omega
theorem am_blind {X : Ctx} {args : List Value} {σ : Mem} {sz : Nat} : FrameBlind (va_Pc args (fun U => U.heap.size = sz ∧ va_P X.2.1 vwCl (wd X.2.2.2 σ) U.heap ∧ va_K X.2.1 vwCl X.2.2.1 U ∧ va_D (fun _ => True) (wd X.2.2.2 σ) ∧ NW U)) :=
  fun a U g mk q => by
    obtain ⟨q0, q1, qP, qK, qD, qN⟩ := q
    exact ⟨q0, q1, qP, va_K.moved (u := U) (U := U.calling g mk a) (Vm.Alike.refl U.vm) qK, qD, qN.same rfl⟩
section AWC
variable {X : Ctx} {Y Y' : MD} {lv lv' : Nat} {α β : Type} {emb : α → Option Value} {emb' : β → Option Value} {ls : List (Nat × Value)} {pc idx n : Nat} {st st0 : List Value} {σ : Mem}
theorem aw_run {l : Launch} {p : Program} {e : Env} {R : Room} {s : State} {m : MethodId} {args : Array Value} {below : List Frame} {meth : Method} {c : Code} {H : Heap} {locs : List Loc} {Q : State → Prop} {rv : Option Value} {σ1 : Mem} {A : Nat → Prop} {L : Array Slot} {aa : Array Value} {rest : List Value}
    (hr : va_Run p l e R s m args below meth c H locs 0 0 0 0 (F0 m pc L st0) rest (qQ X rv σ1 (va_A (wd X.2.2.2 σ) H.size) aa) (va_A (wd X.2.2.2 σ) H.size))
    (hD : va_D A (wd X.2.2.2 σ)) (hS : va_S A s.heap H locs) (hA : ∀ q, s.heap.size ≤ q → A q)
    (kk : ∀ (H1 : Heap) (locs1 : List Loc), va_P X.2.1 vwCl (wd X.2.2.2 σ1) H1 → va_S A s.heap H1 locs1 → W p l e R s m args below meth c H1 locs1 0 0 Q (F0 m (pc + 3) L (rv.toList ++ rest))) : W p l e R s m args below meth c H locs 0 0 Q (F0 m pc L st0) := by
  have hin : ∀ q, q < H.size → va_A (wd X.2.2.2 σ) H.size q → A q := fun q hq h => by
    rcases h with ⟨k, e, hk⟩ | h
    · exact hD.2 k _ hk
    · omega
  have hfr : ∀ q, va_A (wd X.2.2.2 σ) H.size q → A q := fun q h => by
    rcases h with ⟨k, e, hk⟩ | h
    · exact hD.2 k _ hk
    · exact hA q (Nat.le_trans hS.1 h)
  intro T hT X0
  obtain ⟨v, st₀, t, T', LL, h0, X', hL, e1, e2, ⟨⟨hv, hp, hk⟩, hz, hkeep⟩, sst⟩ := hr T hT X0
  cases hv
  rw [h0] at hz hkeep
  obtain ⟨t2, a1, b1⟩ := kk T'.heap (locs ++ LL) (by rw [e1]; exact hp)
    ⟨Nat.le_trans hS.1 (by rw [e1]; exact hz), fun q h1 h2 => by rw [e1, hkeep q (Nat.lt_of_lt_of_le h1 hS.1) (fun z => h2 (hin q (Nat.lt_of_lt_of_le h1 hS.1) z))]; exact hS.2.1 q h1 h2, fun q hq => by
      rcases List.mem_append.mp hq with h | h
      · exact hS.2.2 q h
      · exact hfr _ (hL q h)⟩ T' rfl X'
  exact ⟨t2, sst t2 a1, b1⟩
theorem aw_callV0 {a b ci N : Nat} {T : u_T} {ty : Nat → FieldType} {As : List Value} {E' : Option (β × Mem)} {K : β → Mem → Option (α × Mem)} (hM : AMF X Y' lv' emb' (.ref (X.2.2.2.2.1 a b 0) :: As) σ E') (hO : IsO X a b ci) (hci : CI ci Y'.1.cls T N ty) (hlv : lv' < lv) (hok : MOK Y' n)
    (hin : Cond.instanceMethod Y'.1 ∈ Gw) (hse : Cond.selects Y'.1.cls Y'.1 Y'.1 ∈ Gw) (hli : Cond.methodLink Y.1.cls idx Y'.1 ∈ Gw) (hn : As.length = n) (hst : st0 = As.reverse ++ .ref (X.2.2.2.2.1 a b 0) :: st) (hro : (st.map fun v => v.category).sum ≤ 8) (hdg : decode Y.2.1 pc = .ok (.invokevirtual idx, 3))
    (k : ∀ (r1 : β) (s1 : Mem), E' = some (r1, s1) → AW X Y lv emb ls (pc + 3) ((emb' r1).toList ++ st) s1 (K r1 s1)) : AW X Y lv emb ls pc st0 σ (E'.bind (fun q => K q.1 q.2)) :=
  fun r σ1 hE p e s m args below meth c H locs A L hc hL hP hD hS hA => by
    cases hq : E' with
    | none => rw [hq] at hE; cases hE
    | some q =>
      obtain ⟨r1, s1⟩ := q
      rw [hq, Option.bind_some] at hE
      obtain ⟨q0, -, hq0⟩ := wd_at (σ := σ) hO.1.1
      obtain ⟨fs, hfs⟩ := hO.2 (gI σ a b 0) (gL σ a b 0) (gB σ a b 0) (gR σ a b 0)
      rw [hfs] at hq0
      have hts := hc.2.2.2.2.1
      have hcB : CallW (rmL lv) s args Y.1.cls Y'.1.cls idx Y'.1 Y'.2.1 Y'.2.2.1 Y'.2.2.2 (wsY Y') (rmL lv') 0 0 n :=
        ⟨callB_of n hts (good_ws hok) rfl rfl rfl (hts _ hok.2.1) (hts _ hli) hok.2.2.1 (rm_ok hlv hok.2.2.2), hts _ hin, hts _ hse⟩
      refine aw_run (X := X) (σ := σ) (va_runV (As := As) (rest := st) ⟨hc.1, hc.2.1, hc.2.2.1, hc.2.2.2.1, hts⟩ (hM r1 s1 hq H.size) hcB ⟨am_blind, va_recv hc.2.2.2.2.2.1 hP hci.1 hq0, fun U hU hW => ⟨rfl, by rw [hU], by rw [hU]; exact hP, va_K.moved hW.alike hc.2.2.2.2.2.1, hD.weaken (fun _ _ _ _ => trivial), NW.warm hW hc.2.2.2.2.2.2.2.2⟩⟩ rfl hn hL.1 hst (lv_room hro) hdg ⟨Nat.zero_le _, Nat.zero_le _⟩) hD hS hA (fun H1 locs1 hP1 hS1 => ?_)
      exact k r1 s1 hq r σ1 hE p e s m args below meth c H1 locs1 A L hc hL hP1 (wd_D hD) hS1 hA
theorem aw_callS0 {As : List Value} {E' : Option (β × Mem)} {K : β → Mem → Option (α × Mem)} (hM : AMF X Y' lv' emb' As σ E') (hlv : lv' < lv) (hok : MOK Y' n)
    (hsta : Cond.static Y'.1 ∈ Gw) (hli : Cond.methodLink Y.1.cls idx Y'.1 ∈ Gw) (hn : As.length = n) (hst : st0 = As.reverse ++ st) (hro : (st.map fun v => v.category).sum ≤ 8) (hdg : decode Y.2.1 pc = .ok (.invokestatic idx, 3))
    (k : ∀ (r1 : β) (s1 : Mem), E' = some (r1, s1) → AW X Y lv emb ls (pc + 3) ((emb' r1).toList ++ st) s1 (K r1 s1)) : AW X Y lv emb ls pc st0 σ (E'.bind (fun q => K q.1 q.2)) :=
  fun r σ1 hE p e s m args below meth c H locs A L hc hL hP hD hS hA => by
    cases hq : E' with
    | none => rw [hq] at hE; cases hE
    | some q =>
      obtain ⟨r1, s1⟩ := q
      rw [hq, Option.bind_some] at hE
      have hts := hc.2.2.2.2.1
      have hcB : CallB (rmL lv) s args Y.1.cls idx Y'.1 Y'.2.1 Y'.2.2.1 Y'.2.2.2 (wsY Y') (rmL lv') 0 0 n ∧ (Cond.static Y'.1).before args s = true :=
        ⟨callB_of n hts (good_ws hok) rfl rfl rfl (hts _ hok.2.1) (hts _ hli) hok.2.2.1 (rm_ok hlv hok.2.2.2), hts _ hsta⟩
      refine aw_run (X := X) (σ := σ) (va_runS (As := As) (rest := st) ⟨hc.1, hc.2.1, hc.2.2.1, hc.2.2.2.1, hts⟩ (hM r1 s1 hq H.size) hcB ⟨am_blind, fun U hU hW => ⟨rfl, by rw [hU], by rw [hU]; exact hP, va_K.moved hW.alike hc.2.2.2.2.2.1, hD.weaken (fun _ _ _ _ => trivial), NW.warm hW hc.2.2.2.2.2.2.2.2⟩⟩ rfl hn hL.1 hst (lv_room hro) hdg ⟨Nat.zero_le _, Nat.zero_le _⟩) hD hS hA (fun H1 locs1 hP1 hS1 => ?_)
      exact k r1 s1 hq r σ1 hE p e s m args below meth c H1 locs1 A L hc hL hP1 (wd_D hD) hS1 hA
theorem aw_callSN0 {host : String} {As : List Value} {E' : Option (β × Mem)} {K : β → Mem → Option (α × Mem)} (hM : AMF X Y' lv' emb' As σ E') (hlv : lv' < lv) (hok : MOK Y' n)
    (hsta : Cond.static Y'.1 ∈ Gw) (hli : (Y.1.cls, idx, Y'.1, host) ∈ nestW) (hn : As.length = n) (hst : st0 = As.reverse ++ st) (hro : (st.map fun v => v.category).sum ≤ 8) (hdg : decode Y.2.1 pc = .ok (.invokestatic idx, 3))
    (k : ∀ (r1 : β) (s1 : Mem), E' = some (r1, s1) → AW X Y lv emb ls (pc + 3) ((emb' r1).toList ++ st) s1 (K r1 s1)) : AW X Y lv emb ls pc st0 σ (E'.bind (fun q => K q.1 q.2)) :=
  fun r σ1 hE p e s m args below meth c H locs A L hc hL hP hD hS hA => by
    cases hq : E' with
    | none => rw [hq] at hE; cases hE
    | some q =>
      obtain ⟨r1, s1⟩ := q
      rw [hq, Option.bind_some] at hE
      have hts := hc.2.2.2.2.1
      refine aw_run (X := X) (σ := σ) (va_runSN (As := As) (rest := st) ⟨hc.1, hc.2.1, hc.2.2.1, hc.2.2.2.1, hts⟩ (hM r1 s1 hq H.size) ⟨va_cnB (host := host) n hts (good_ws hok) rfl rfl rfl (hc.2.2.2.2.2.2.2.2 _ hli) (hts _ hok.2.1) hok.2.2.1 (rm_ok hlv hok.2.2.2), hts _ hsta, trivial⟩ ⟨am_blind, fun U hU hW => ⟨rfl, by rw [hU], by rw [hU]; exact hP, va_K.moved hW.alike hc.2.2.2.2.2.1, hD.weaken (fun _ _ _ _ => trivial), NW.warm hW hc.2.2.2.2.2.2.2.2⟩⟩ rfl hn hL.1 hst (lv_room hro) hdg ⟨Nat.zero_le _, Nat.zero_le _⟩) hD hS hA (fun H1 locs1 hP1 hS1 => ?_)
      exact k r1 s1 hq r σ1 hE p e s m args below meth c H1 locs1 A L hc hL hP1 (wd_D hD) hS1 hA
end AWC
