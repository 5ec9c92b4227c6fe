/-! making objects: the walk of a constructor, its world an explicit list of cells -/
def wordT : String := "tube bore far wind left ring worth pea size weight crooked wet shooter puff shake lean low load aim beat shoot wipe next when score holes spit loop end stop "
def wordB : List Int32 := [116, 117, 98, 101, 32, 98, 111, 114, 101, 32, 102, 97, 114, 32, 119, 105, 110, 100, 32, 108, 101, 102, 116, 32, 114, 105, 110, 103, 32, 119, 111, 114, 116, 104, 32, 112, 101, 97, 32, 115, 105, 122, 101, 32, 119, 101, 105, 103, 104, 116, 32, 99, 114, 111, 111, 107, 101, 100, 32, 119, 101, 116, 32, 115, 104, 111, 111, 116, 101, 114, 32, 112, 117, 102, 102, 32, 115, 104, 97, 107, 101, 32, 108, 101, 97, 110, 32, 108, 111, 119, 32, 108, 111, 97, 100, 32, 97, 105, 109, 32, 98, 101, 97, 116, 32, 115, 104, 111, 111, 116, 32, 119, 105, 112, 101, 32, 110, 101, 120, 116, 32, 119, 104, 101, 110, 32, 115, 99, 111, 114, 101, 32, 104, 111, 108, 101, 115, 32, 115, 112, 105, 116, 32, 108, 111, 111, 112, 32, 101, 110, 100, 32, 115, 116, 111, 112, 32]
def SPA (A : Nat → Prop) (U : State) (H : Heap) : Prop := (va_AO "PeaTube$Tray" U ∧ va_AO "PeaTube$Kept" U ∧ va_AO "PeaTube$Chances" U) ∧ ∃ (adK adV : Nat → Nat) (fm : Value), (fm = .null ∨ ∃ t : Nat, fm = .ref t) ∧ vk_S 1 [157] [wordB] adK adV A U H ∧
  va_Z "java/lang/String" "COMPACT_STRINGS" "Z" (.int 1) A U H ∧ va_Z "jdk/internal/util/Preconditions" "SIOOBE_FORMATTER" "Ljava/util/function/BiFunction;" fm A U H ∧ vk_R "PeaTube$Tape" 26 wordT (adK 0) U
theorem SPA.narrow {A B : Nat → Prop} {U : State} {H : Heap} (h : SPA A U H) (hAB : ∀ q, B q → A q) : SPA B U H := by
  obtain ⟨h0, a, v, f, hf, h1, h2, h3, h4⟩ := h
  exact ⟨h0, a, v, f, hf, h1.narrow hAB, h2.narrow hAB, h3.narrow hAB, h4⟩
theorem SPA.kept {A : Nat → Prop} {U : State} {H H1 : Heap} (h : SPA A U H) (hq : ∀ a : Nat, a < H.size → ¬ A a → H1[a]? = H[a]?) : SPA A U H1 := by
  obtain ⟨h0, a, v, f, hf, h1, h2, h3, h4⟩ := h
  exact ⟨h0, a, v, f, hf, h1.kept hq, h2.kept hq, h3.kept hq, h4⟩
theorem SPA.warm {A : Nat → Prop} {s U : State} {H : Heap} (hW : s.WarmedH U.vm) (h : SPA A s H) : SPA A U H := by
  obtain ⟨⟨g1, g2, g3⟩, a, v, f, hf, h1, h2, h3, h4⟩ := h
  exact ⟨⟨g1.moved hW.alike, g2.moved hW.alike, g3.moved hW.alike⟩, a, v, f, hf, h1.moved hW.alike, h2.moved hW.alike, h3.moved hW.alike, h4.warm hW⟩
theorem SPA.same {A : Nat → Prop} {s U : State} {H : Heap} (hv : s.vm.Alike U.vm) (he : U.vm = s.vm) (h : SPA A s H) : SPA A U H := by
  obtain ⟨⟨g1, g2, g3⟩, a, v, f, hf, h1, h2, h3, h4⟩ := h
  exact ⟨⟨g1.moved hv, g2.moved hv, g3.moved hv⟩, a, v, f, hf, h1.moved hv, h2.moved hv, h3.moved hv, h4.same he⟩
abbrev TyL : Type := List (ClassId × FieldType)
def rmC (lv mc ms : Nat) : Room := { frames := 2 * lv + 2, cells := mc, slots := ms, locals := 120 * lv + 120 }
def cC (D : va_G) (E : va_W → TyL → Prop) (A : Nat → Prop) : Array Value → State → Outcome → State → Prop := fun _ st oc t =>
  (oc = .returned none ∧ ∃ (ws : va_W) (tys : TyL), E ws tys ∧ va_P D vwCl ws t.heap ∧ va_K D vwCl tys t ∧ va_D A ws) ∧ va_F A st t
def cPre (D : va_G) (w0 : va_W) (t0 : TyL) (sz : Nat) : State → Prop := fun U => U.heap.size = sz ∧ va_P D vwCl w0 U.heap ∧ va_K D vwCl t0 U ∧ va_D (fun _ => True) w0 ∧ NW U ∧ SPA (va_A w0 sz) U U.heap
/-- a constructor's contract: from the world w0 it makes a world as E says; mc cells of ms slots come -/
def CM (l : Launch) (D : va_G) (Y : MD) (lv mc ms : Nat) (av : List Value) (w0 : va_W) (t0 : TyL) (E : va_W → TyL → Prop) : Prop :=
  ∀ sz : Nat, Met l Y.1 (wsY Y) (rmC lv mc ms) (va_Pc av (cPre D w0 t0 sz)) (cC D E (va_A w0 sz)) mc ms (va_A w0 sz)
def CX2 (Y : MD) (p : Program) (s : State) (m : MethodId) (args : Array Value) (meth : Method) (c : Code) : Prop :=
  p.tables.exec = Jvm.exec ∧ c.code = Y.2.1 ∧ c.maxLocals = Y.2.2.1 ∧ s.vm.findClass Y.1.cls = some m.cls ∧ (∀ w ∈ Gw, w.before args s = true) ∧ meth.sig.returnType = Y.2.2.2 ∧ meth.locks = false ∧ meth.name = Y.1.name ∧ NW s
def CW (l : Launch) (D : va_G) (Y : MD) (lv mc ms : Nat) (E : va_W → TyL → Prop) (ls : List (Nat × Value)) (pc : Nat) (st : List Value) (ws : va_W) (tys : TyL) (nc ns : Nat) : Prop :=
  ∀ (p : Program) (e : Env) (s : State) (m : MethodId) (args : Array Value) (below : List Frame) (meth : Method) (c : Code) (H : Heap) (locs : List Loc) (A : Nat → Prop) (L : Array Slot),
    CX2 Y p s m args meth c → lv_has L Y.2.2.1 ls → va_P D vwCl ws H → va_D A ws → va_K D vwCl tys s → va_S A s.heap H locs → (∀ q, s.heap.size ≤ q → A q) → SPA A s s.heap →
    W p l e (rmC lv mc ms) s m args below meth c H locs nc ns (MQ below (cC D E A) args s mc ms A) (F0 m pc L st)
theorem CM.ofW {l : Launch} {D : va_G} {Y : MD} {lv mc ms : Nat} {av : List Value} {w0 : va_W} {t0 : TyL} {E : va_W → TyL → Prop} {ls : List (Nat × Value)} (hy : plainName Y.1.cls = true) (hn : (lg_sl av).length ≤ Y.2.2.1) (hls : lv_args 0 av = ls)
    (k : CW l D Y lv mc ms E ls 0 [] w0 t0 0 0) : CM l D Y lv mc ms av w0 t0 E := by
  intro sz
  refine Met.ofW (cc := Y.2.1) (maxL := Y.2.2.1) (ret := Y.2.2.2) hy rfl ?_
  intro p e s m args' below meth c s₁ B hml hv
  obtain ⟨rfl, hsz, hP, hK, hD0, hN, hS⟩ := hv
  have hts := atoms_spec (ws := wsY Y) B.pre
  subst hsz
  rw [lg_entry_eq]
  exact k p e s m _ below meth c s.heap [] _ _ ⟨B.exec, B.bytes, hml, findClass_of_methodNamed B.named, fun w hw => hts w (List.mem_cons_of_mem _ hw), B.returns, B.notSynchronized, (name_of_methodNamed B.named B.method).1, hN⟩ (hls ▸ lv_entry av hn) hP hD0.self hK va_S.rf (fun q h => Or.inr h) hS
theorem cm_blind {av : List Value} {D : va_G} {w0 : va_W} {t0 : TyL} {sz : Nat} : FrameBlind (va_Pc av (cPre D w0 t0 sz)) :=
  fun a U g mk q => by
    obtain ⟨q0, q1, qP, qK, qD, qN, qS⟩ := q
    exact ⟨q0, q1, qP, va_K.moved (u := U) (U := U.calling g mk a) (Vm.Alike.refl U.vm) qK, qD, qN.same rfl, qS.same (Vm.Alike.refl U.vm) rfl⟩
theorem va_P_of {D : va_G} {cl : List vw_C} {w1 w2 : va_W} {H : Heap} (h : va_P D cl w1 H) (hs : ∀ q ∈ w2, q ∈ w1) : va_P D cl w2 H := fun k q hk => by
  obtain ⟨i, hi⟩ := List.mem_iff_getElem?.mp (hs q (List.mem_of_getElem? hk))
  exact h i q hi
theorem va_K_of {D : va_G} {cl : List vw_C} {t1 t2 : TyL} {U : State} (h : va_K D cl t1 U) (hs : ∀ q ∈ t2, q ∈ t1) : va_K D cl t2 U := ⟨h.1, fun k q hk => by
  obtain ⟨i, hi⟩ := List.mem_iff_getElem?.mp (hs q (List.mem_of_getElem? hk))
  exact h.2 i q hi⟩
theorem va_D_nd {A : Nat → Prop} {w : va_W} : va_D A w ↔ ((w.map Prod.fst).Nodup ∧ ∀ q ∈ w, A q.1) := by
  constructor
  · intro h
    refine ⟨?_, fun q hq => ?_⟩
    · rw [List.nodup_iff_pairwise_ne, List.pairwise_iff_getElem]
      intro i j hi hj hij e
      rw [List.length_map] at hi hj
      rw [List.getElem_map, List.getElem_map] at e
      have := h.1 i j _ _ (List.getElem?_eq_getElem hi) (List.getElem?_eq_getElem hj) e
      omega
    · obtain ⟨i, hi⟩ := List.mem_iff_getElem?.mp hq
      exact h.2 i q hi
  · intro ⟨h1, h2⟩
    refine ⟨fun i j p q hi hj e => ?_, fun k q hk => h2 q (List.mem_of_getElem? hk)⟩
    have li := (List.getElem?_eq_some_iff.mp hi).1
    have hl : i < (w.map Prod.fst).length := by rw [List.length_map]; exact li
    refine (List.getElem?_inj hl h1).mp ?_
    rw [List.getElem?_map, List.getElem?_map, hi, hj]
    simp [e]
theorem va_D_perm {A : Nat → Prop} {w1 w2 : va_W} (hp : w1.Perm w2) (h : va_D A w1) : va_D A w2 := by
  obtain ⟨h1, h2⟩ := va_D_nd.mp h
  exact va_D_nd.mpr ⟨(hp.map Prod.fst).nodup_iff.mp h1, fun q hq => h2 q (hp.mem_iff.mpr hq)⟩
section CWR
variable {l : Launch} {D : va_G} {Y : MD} {lv mc ms : Nat} {E : va_W → TyL → Prop} {ls ls' : List (Nat × Value)} {pc : Nat} {st : List Value} {ws ws' : va_W} {tys tys' : TyL} {nc ns nc' ns' : Nat}
theorem cw_perm (hp : ws.Perm ws') (k : CW l D Y lv mc ms E ls pc st ws' tys nc ns) : CW l D Y lv mc ms E ls pc st ws tys nc ns :=
  fun p e s m args below meth c H locs A L hc hL hP hD hK hS hA hZ => k p e s m args below meth c H locs A L hc hL (va_P_of hP fun q hq => hp.mem_iff.mpr hq) (va_D_perm hp hD) hK hS hA hZ
theorem cw_tys (hp : ∀ q ∈ tys', q ∈ tys) (k : CW l D Y lv mc ms E ls pc st ws tys' nc ns) : CW l D Y lv mc ms E ls pc st ws tys nc ns :=
  fun p e s m args below meth c H locs A L hc hL hP hD hK hS hA hZ => k p e s m args below meth c H locs A L hc hL hP hD (va_K_of hK hp) hS hA hZ
theorem cw_widen (h1 : nc ≤ nc') (h2 : ns ≤ ns') (k : CW l D Y lv mc ms E ls pc st ws tys nc' ns') : CW l D Y lv mc ms E ls pc st ws tys nc ns :=
  fun p e s m args below meth c H locs A L hc hL hP hD hK hS hA hZ => W.widen h1 h2 (k p e s m args below meth c H locs A L hc hL hP hD hK hS hA hZ)
theorem cw_aload {i : Nat} {j : Fin 4} {x : Nat} (q : Nat) (hdg : decode Y.2.1 pc = .ok (.aload_n j, 1)) (hi : (j : Nat) = i) (hl : ls[q]? = some (i, .ref x)) (k : CW l D Y lv mc ms E ls (pc + 1) (.ref x :: st) ws tys nc ns) : CW l D Y lv mc ms E ls pc st ws tys nc ns :=
  fun p e s m args below meth c H locs A L hc hL hP hD hK hS hA hZ => lv_aload_n hc.1 hc.2.1 hdg hi (lv_at hL q hl) (k p e s m args below meth c H locs A L hc hL hP hD hK hS hA hZ)
theorem cw_iload {i : Nat} {j : Fin 4} {x : Int32} (q : Nat) (hdg : decode Y.2.1 pc = .ok (.iload_n j, 1)) (hi : (j : Nat) = i) (hl : ls[q]? = some (i, .int x)) (k : CW l D Y lv mc ms E ls (pc + 1) (.int x :: st) ws tys nc ns) : CW l D Y lv mc ms E ls pc st ws tys nc ns :=
  fun p e s m args below meth c H locs A L hc hL hP hD hK hS hA hZ => lv_iload_n hc.1 hc.2.1 hdg hi (lv_at hL q hl) (k p e s m args below meth c H locs A L hc hL hP hD hK hS hA hZ)
theorem cw_iconst {n : Int} (v : Int32) (hdg : decode Y.2.1 pc = .ok (.iconst n, 1)) (hv : Int32.ofInt n = v) (k : CW l D Y lv mc ms E ls (pc + 1) (.int v :: st) ws tys nc ns) : CW l D Y lv mc ms E ls pc st ws tys nc ns :=
  fun p e s m args below meth c H locs A L hc hL hP hD hK hS hA hZ => lv_iconst hc.1 hc.2.1 hdg hv (k p e s m args below meth c H locs A L hc hL hP hD hK hS hA hZ)
theorem cw_bipush {n : Int} (v : Int32) (hdg : decode Y.2.1 pc = .ok (.bipush n, 2)) (hv : (Int8.ofInt n).toInt32 = v) (k : CW l D Y lv mc ms E ls (pc + 2) (.int v :: st) ws tys nc ns) : CW l D Y lv mc ms E ls pc st ws tys nc ns :=
  fun p e s m args below meth c H locs A L hc hL hP hD hK hS hA hZ => lv_bipush hc.1 hc.2.1 hdg hv (k p e s m args below meth c H locs A L hc hL hP hD hK hS hA hZ)
theorem cw_sipush {n : Int} (v : Int32) (hdg : decode Y.2.1 pc = .ok (.sipush n, 3)) (hv : (Int16.ofInt n).toInt32 = v) (k : CW l D Y lv mc ms E ls (pc + 3) (.int v :: st) ws tys nc ns) : CW l D Y lv mc ms E ls pc st ws tys nc ns :=
  fun p e s m args below meth c H locs A L hc hL hP hD hK hS hA hZ => lv_sipush hc.1 hc.2.1 hdg hv (k p e s m args below meth c H locs A L hc hL hP hD hK hS hA hZ)
theorem cw_lconst {n : Fin 2} (v : Int64) (hdg : decode Y.2.1 pc = .ok (.lconst n, 1)) (hv : Int64.ofNat (n : Nat) = v) (k : CW l D Y lv mc ms E ls (pc + 1) (.long v :: st) ws tys nc ns) : CW l D Y lv mc ms E ls pc st ws tys nc ns :=
  fun p e s m args below meth c H locs A L hc hL hP hD hK hS hA hZ => lv_lconst hc.1 hc.2.1 hdg hv (k p e s m args below meth c H locs A L hc hL hP hD hK hS hA hZ)
theorem cw_dup {v : Value} (hdg : decode Y.2.1 pc = .ok (.dup, 1)) (hv : v.category = 1) (k : CW l D Y lv mc ms E ls (pc + 1) (v :: v :: st) ws tys nc ns) : CW l D Y lv mc ms E ls pc (v :: st) ws tys nc ns :=
  fun p e s m args below meth c H locs A L hc hL hP hD hK hS hA hZ => lv_dup hc.1 hc.2.1 hdg hv (k p e s m args below meth c H locs A L hc hL hP hD hK hS hA hZ)
theorem cw_goto {off : Int} (tgt : Nat) (hdg : decode Y.2.1 pc = .ok (.goto off, 3)) (ht : (pc : Int) + off = (tgt : Int)) (k : CW l D Y lv mc ms E ls tgt st ws tys nc ns) : CW l D Y lv mc ms E ls pc st ws tys nc ns :=
  fun p e s m args below meth c H locs A L hc hL hP hD hK hS hA hZ => lv_goto hc.1 hc.2.1 hdg ht (k p e s m args below meth c H locs A L hc hL hP hD hK hS hA hZ)
theorem cw_istore {k' : Fin 4} {i : Nat} {x : Int32} (hdg : decode Y.2.1 pc = .ok (.istore_n k', 1)) (hi : (k' : Nat) = i) (hn : i < Y.2.2.1) (hl : (i, Value.int x) :: ls.filter (fun q => !(q.1 == i) && !(q.1 + 1 == i && q.2.category == 2)) = ls') (k : CW l D Y lv mc ms E ls' (pc + 1) st ws tys nc ns) : CW l D Y lv mc ms E ls pc (.int x :: st) ws tys nc ns :=
  fun p e s m args below meth c H locs A L hc hL hP hD hK hS hA hZ => lv_istore_n hc.1 hc.2.1 hdg hi hL hn hl (fun L' hL' => k p e s m args below meth c H locs A L' hc hL' hP hD hK hS hA hZ)
theorem cw_iinc {i : Nat} {n : Int} {x : Int32} (v : Int32) (q : Nat) (hdg : decode Y.2.1 pc = .ok (.iinc i n, 3)) (hq : ls[q]? = some (i, .int x)) (hv : x + Int32.ofInt n = v) (hn : i < Y.2.2.1) (hl : (i, Value.int v) :: ls.filter (fun q => !(q.1 == i) && !(q.1 + 1 == i && q.2.category == 2)) = ls') (k : CW l D Y lv mc ms E ls' (pc + 3) st ws tys nc ns) : CW l D Y lv mc ms E ls pc st ws tys nc ns :=
  fun p e s m args below meth c H locs A L hc hL hP hD hK hS hA hZ => lv_iinc hc.1 hc.2.1 hdg hL (k := q) hq hv hn hl (fun L' hL' => k p e s m args below meth c H locs A L' hc hL' hP hD hK hS hA hZ)
theorem cw_icmp_ge_t {x y : Int32} {off : Int} (tgt : Nat) (hdg : decode Y.2.1 pc = .ok (.if_icmp .ge off, 3)) (ht : (pc : Int) + off = (tgt : Int)) (h : y ≤ x) (k : CW l D Y lv mc ms E ls tgt st ws tys nc ns) : CW l D Y lv mc ms E ls pc (.int y :: .int x :: st) ws tys nc ns :=
  fun p e s m args below meth c H locs A L hc hL hP hD hK hS hA hZ => lv_icmp_ge hc.1 hc.2.1 hdg ht (fun _ => k p e s m args below meth c H locs A L hc hL hP hD hK hS hA hZ) (fun h2 => absurd h h2)
theorem cw_icmp_ge_f {x y : Int32} {off : Int} (tgt : Nat) (hdg : decode Y.2.1 pc = .ok (.if_icmp .ge off, 3)) (ht : (pc : Int) + off = (tgt : Int)) (h : ¬ y ≤ x) (k : CW l D Y lv mc ms E ls (pc + 3) st ws tys nc ns) : CW l D Y lv mc ms E ls pc (.int y :: .int x :: st) ws tys nc ns :=
  fun p e s m args below meth c H locs A L hc hL hP hD hK hS hA hZ => lv_icmp_ge hc.1 hc.2.1 hdg ht (fun h2 => absurd h2 h) (fun _ => k p e s m args below meth c H locs A L hc hL hP hD hK hS hA hZ)
theorem cw_iast {a n : Nat} {cA : ClassId} {f : Nat → Int32} {i x : Int32} (q0 t0 : Nat) (ha : ws[q0]? = some (a, .inl (cA, n, .inl f))) (ht : tys[t0]? = some (cA, .int)) (hin : vp_in i n) (hdg : decode Y.2.1 pc = .ok (.iastore, 1)) (hws : ws.set q0 (a, .inl (cA, n, .inl (upd f i.toNatClampNeg x))) = ws')
    (k : CW l D Y lv mc ms E ls (pc + 1) st ws' tys nc ns) : CW l D Y lv mc ms E ls pc (.int x :: .int i :: .ref a :: st) ws tys nc ns :=
  fun p e s m args below meth c H locs A L hc hL hP hD hK hS hA hZ => va_iast hc.1 hc.2.1 hK hP hD hS q0 t0 ha ht hin hdg (fun H1 locs1 hP1 hD1 hS1 => k p e s m args below meth c H1 locs1 A L hc hL (hws ▸ hP1) (hws ▸ hD1) hK hS1 hA hZ)
/-- Object's constructor -/
theorem cw_obj {idx x : Nat} (hli : Cond.methodLink Y.1.cls idx Lib.objectInit ∈ Gw) (hin : Cond.instanceMethod Lib.objectInit ∈ Gw) (hco : Cond.code Lib.objectInit ⟨#[0xb1]⟩ 1 none ∈ Gw) (hro : (st.map fun v => v.category).sum ≤ 8) (hdg : decode Y.2.1 pc = .ok (.invokespecial idx, 3)) (k : CW l D Y lv mc ms E ls (pc + 3) st ws tys nc ns) : CW l D Y lv mc ms E ls pc (.ref x :: st) ws tys nc ns :=
  fun p e s m args below meth c H locs A L hc hL hP hD hK hS hA hZ => W.objInit hc.1 hc.2.1 hc.2.2.2.1 (hc.2.2.2.2.1 _ hli) (hc.2.2.2.2.1 _ hin) (hc.2.2.2.2.1 _ hco) rfl (by rw [hc.2.2.1]; exact hL.1) rfl hdg (by simp only [rmC]; omega) (by have h8 : 2 * (F0 m pc L (Value.ref x :: st)).monitorRoom + (st.map fun v => v.category).sum ≤ 8 := lv_room hro; simp only [rmC]; omega) (W.eq (g2 := F0 m (pc + 3) L st) rfl (k p e s m args below meth c H locs A L hc hL hP hD hK hS hA hZ))
theorem cw_newa {atype : ArrayType} {ty : FieldType} {n : Int32} {N : Nat} {a0 : vp_A} (harr : Cond.arrayClass (newarray.typeOf atype) ∈ Gw) (hty : newarray.typeOf atype = ty) (ha : ∀ cA : ClassId, vp_cell cA a0 = arrV cA N (fun _ => defaultValue ty)) (hn : ¬ n < 0) (hN : n.toNatClampNeg = N) (hbytes : N * componentBytes ty ≤ 536870912) (hcells : nc + 1 ≤ mc) (hslots : ns + N ≤ ms) (hdg : decode Y.2.1 pc = .ok (.newarray atype, 2))
    (k : ∀ (q : Nat) (cA : ClassId), CW l D Y lv mc ms E ls (pc + 2) (.ref q :: st) (ws ++ [(q, .inl (cA, a0))]) (tys ++ [(cA, ty)]) (nc + 1) (ns + N)) : CW l D Y lv mc ms E ls pc (.int n :: st) ws tys nc ns :=
  fun p e s m args below meth c H locs A L hc hL hP hD hK hS hA hZ => va_newa hc.1 hc.2.1 (hc.2.2.2.2.1 _ harr) hty hK hP hD hS hA ha hn hN hbytes hcells hslots hdg (fun q cA H1 hK1 hP1 hD1 hS1 => k q cA p e s m args below meth c H1 locs A L hc hL hP1 hD1 hK1 hS1 hA hZ)
theorem cw_newq {C : String} {idx : Nat} {n : Int32} {N : Nat} (hcl : Cond.classLink Y.1.cls idx C ∈ Gw) (hov : ∀ (A : Nat → Prop) (U : State) (H : Heap), SPA A U H → va_AO C U) (hn : ¬ n < 0) (hN : n.toNatClampNeg = N) (hbytes : N * 4 ≤ 536870912) (hcells : nc + 1 ≤ mc) (hslots : ns + N ≤ ms) (hdg : decode Y.2.1 pc = .ok (.anewarray idx, 3))
    (k : ∀ (q : Nat) (cA : ClassId), CW l D Y lv mc ms E ls (pc + 3) (.ref q :: st) (ws ++ [(q, .inl (cA, N, .inr (.inr (.inr (.inr (fun _ => none))))))]) (tys ++ [(cA, .object C)]) (nc + 1) (ns + N)) : CW l D Y lv mc ms E ls pc (.int n :: st) ws tys nc ns :=
  fun p e s m args below meth c H locs A L hc hL hP hD hK hS hA hZ => va_newq hc.1 hc.2.1 hc.2.2.2.1 (hc.2.2.2.2.1 _ hcl) (hov _ _ _ hZ) hK hP hD hS hA hn hN hbytes hcells hslots hdg (fun q cA H1 hK1 hP1 hD1 hS1 => k q cA p e s m args below meth c H1 locs A L hc hL hP1 hD1 hK1 hS1 hA hZ)
theorem cw_new {C : String} {T : u_T} {N ci idx : Nat} {ty : Nat → FieldType} {fs : List Value} (hci : CI ci C T N ty) (hcl : Cond.classLink Y.1.cls idx C ∈ Gw) (hinst : Cond.instantiable C N ∈ Gw) (hini : Cond.initialized C ∈ Gw) (hfs : ∀ j, j < N → defaultValue (ty j) = vp_V fs j) (hcells : nc + 1 ≤ mc) (hslots : ns + N ≤ ms) (hdg : decode Y.2.1 pc = .ok (.new idx, 3))
    (k : ∀ q : Nat, CW l D Y lv mc ms E ls (pc + 3) (.ref q :: st) (ws ++ [(q, .inr (ci, fs))]) tys (nc + 1) (ns + N)) : CW l D Y lv mc ms E ls pc st ws tys nc ns :=
  fun p e s m args below meth c H locs A L hc hL hP hD hK hS hA hZ => va_new hc.1 hc.2.1 hc.2.2.2.2.1 hci.2.1 ty hci.2.2.1 hc.2.2.2.1 (hc.2.2.2.2.1 _ hcl) (hc.2.2.2.2.1 _ hinst) (hc.2.2.2.2.1 _ hini) hK hP hD hS hA hci.1 hfs hcells hslots hdg (fun q H1 hP1 hD1 hS1 => k q p e s m args below meth c H1 locs A L hc hL hP1 hD1 hK hS1 hA hZ)
theorem cw_put {C : String} {T : u_T} {N ci idx a : Nat} {ty : Nat → FieldType} {fs : List Value} {v : Value} (q0 k0 : Nat) (hci : CI ci C T N ty) (he : ws[q0]? = some (a, .inr (ci, fs))) (hk : k0 < N) (hw : Cond.fieldLink Y.1.cls idx (T k0).1 (T k0).2.1 (T k0).2.2.1 ∈ Gw) (hfin : (T k0).2.2.2 = false) (hn : narrow (ty k0) v = v) (hfit : fits (ty k0) v = true) (hl : k0 < fs.length) (hdg : decode Y.2.1 pc = .ok (.putfield idx, 3)) (hws : ws.set q0 (a, .inr (ci, fs.set k0 v)) = ws')
    (k : CW l D Y lv mc ms E ls (pc + 3) st ws' tys nc ns) : CW l D Y lv mc ms E ls pc (v :: .ref a :: st) ws tys nc ns :=
  fun p e s m args below meth c H locs A L hc hL hP hD hK hS hA hZ => va_put (ty := ty k0) hc.1 hc.2.1 hc.2.2.2.2.1 hci.2.1 ty hci.2.2.1 hci.2.2.2 hc.2.2.2.1 hK hP hD hS q0 he hci.1 k0 hk (hc.2.2.2.2.1 _ hw) (fun _ h9 => h9) hfin (hci.2.2.1 k0 hk) hn hfit hl hdg (fun H1 locs1 hP1 hD1 hS1 => k p e s m args below meth c H1 locs1 A L hc hL (hws ▸ hP1) (hws ▸ hD1) hK hS1 hA hZ)
theorem cw_putF {C : String} {T : u_T} {N ci idx a : Nat} {ty : Nat → FieldType} {fs : List Value} {v : Value} (q0 k0 : Nat) (hci : CI ci C T N ty) (he : ws[q0]? = some (a, .inr (ci, fs))) (hk : k0 < N) (hw : Cond.fieldLink Y.1.cls idx (T k0).1 (T k0).2.1 (T k0).2.2.1 ∈ Gw) (hfin : (T k0).2.2.2 = true) (hin : Y.1.name = "<init>") (hdecl : (T k0).1 = Y.1.cls) (hn : narrow (ty k0) v = v) (hfit : fits (ty k0) v = true) (hl : k0 < fs.length) (hdg : decode Y.2.1 pc = .ok (.putfield idx, 3)) (hws : ws.set q0 (a, .inr (ci, fs.set k0 v)) = ws')
    (k : CW l D Y lv mc ms E ls (pc + 3) st ws' tys nc ns) : CW l D Y lv mc ms E ls pc (v :: .ref a :: st) ws tys nc ns :=
  fun p e s m args below meth c H locs A L hc hL hP hD hK hS hA hZ => va_putF (ty := ty k0) hc.1 hc.2.1 hc.2.2.2.2.1 hci.2.1 ty hci.2.2.1 hci.2.2.2 hc.2.2.2.1 hK hP hD hS q0 he hci.1 k0 hk (hc.2.2.2.2.1 _ hw) (fun _ h9 => h9) hfin (hc.2.2.2.2.2.2.2.1.trans hin) hdecl (hci.2.2.1 k0 hk) hn hfit hl hdg (fun H1 locs1 hP1 hD1 hS1 => k p e s m args below meth c H1 locs1 A L hc hL (hws ▸ hP1) (hws ▸ hD1) hK hS1 hA hZ)
theorem cw_get {C : String} {T : u_T} {N ci idx a : Nat} {ty : Nat → FieldType} {fs : List Value} {v : Value} (q0 k0 : Nat) (hci : CI ci C T N ty) (he : ws[q0]? = some (a, .inr (ci, fs))) (hk : k0 < N) (hw : Cond.fieldLink Y.1.cls idx (T k0).1 (T k0).2.1 (T k0).2.2.1 ∈ Gw) (hv : fs[k0]? = some v) (hdg : decode Y.2.1 pc = .ok (.getfield idx, 3))
    (k : CW l D Y lv mc ms E ls (pc + 3) (v :: st) ws tys nc ns) : CW l D Y lv mc ms E ls pc (.ref a :: st) ws tys nc ns :=
  fun p e s m args below meth c H locs A L hc hL hP hD hK hS hA hZ => va_get hc.1 hc.2.1 hc.2.2.2.2.1 hci.2.1 hc.2.2.2.1 hK hP q0 he hci.1 k0 hk (hc.2.2.2.2.1 _ hw) (fun _ h9 => h9) hv hdg (k p e s m args below meth c H locs A L hc hL hP hD hK hS hA hZ)
theorem cw_astq {C : String} {T : u_T} {Nf ci a v n : Nat} {ty : Nat → FieldType} {vs : List Value} {cA : ClassId} {f : Nat → Option Nat} {i : Int32} (q0 t0 qk : Nat) (hci : CI ci C T Nf ty) (ha : ws[q0]? = some (a, .inl (cA, n, .inr (.inr (.inr (.inr f)))))) (ht : tys[t0]? = some (cA, .object C)) (hv : ws[qk]? = some (v, .inr (ci, vs))) (hin : vp_in i n) (hdg : decode Y.2.1 pc = .ok (.aastore, 1)) (hws : ws.set q0 (a, .inl (cA, n, .inr (.inr (.inr (.inr (va_up f i.toNatClampNeg (some v))))))) = ws')
    (k : CW l D Y lv mc ms E ls (pc + 1) st ws' tys nc ns) : CW l D Y lv mc ms E ls pc (.ref v :: .int i :: .ref a :: st) ws tys nc ns :=
  fun p e s m args below meth c H locs A L hc hL hP hD hK hS hA hZ => va_astq (r := (C, T, Nf)) hc.1 hc.2.1 hK hP hD hS q0 t0 qk ci ha ht hv hci.1 hin hdg (fun H1 locs1 hP1 hD1 hS1 => k p e s m args below meth c H1 locs1 A L hc hL (hws ▸ hP1) (hws ▸ hD1) hK hS1 hA hZ)
theorem cw_ret (hr : Y.2.2.2 = none) (hE : E ws tys) (hdg : decode Y.2.1 pc = .ok (.return_, 1)) : CW l D Y lv mc ms E ls pc [] ws tys mc ms :=
  fun p e s m args below meth c H locs A L hc hL hP hD hK hS hA hZ => W.vret hc.1 hc.2.1 (hc.2.2.2.2.2.1.trans hr) (fun t ht hW => ⟨⟨rfl, ws, tys, hE, by rw [ht]; exact hP, va_K.moved hW.alike hK, hD⟩, hS.F ht⟩) hS.2.2 hdg hc.2.2.2.2.2.2.1
end CWR
