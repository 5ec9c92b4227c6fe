/-! THE ABSTRACT WALK. A memory is four maps, by kind, instance, part and place: ints, longs, truths, instance numbers.
A world spec V: the keys of its cells, their addresses, and what the cell of a key is, by its own part of the memory.
AW: the machine at pc with the listed locals and stack, the heap holding the world of the memory, goes on to what E says (if E is some). -/
abbrev Mem : Type := (Nat → Nat → Nat → Nat → Int32) × (Nat → Nat → Nat → Nat → Int64) × (Nat → Nat → Nat → Nat → Bool) × (Nat → Nat → Nat → Nat → Nat)
abbrev WSp : Type := List (Nat × Nat × Nat) × (Nat → Nat → Nat → Nat) × (Nat → Nat → Nat → (Nat → Int32) → (Nat → Int64) → (Nat → Bool) → (Nat → Nat) → va_E)
abbrev MD : Type := MethodName × ByteArray × Nat × Option FieldType
/-- launch, classes' numbers, array classes, world spec -/
abbrev Ctx : Type := Launch × va_G × List (ClassId × FieldType) × WSp
def b2i (b : Bool) : Int32 := if b = true then 1 else 0
def upB (f : Nat → Bool) (k : Nat) (x : Bool) : Nat → Bool := fun j => if j = k then x else f j
def upR (f : Nat → Nat) (k : Nat) (x : Nat) : Nat → Nat := fun j => if j = k then x else f j
/-- a whole part's ints, longs, truths, numbers are put in place of those that were there -/
def sIf (σ : Mem) (a b c : Nat) (f : Nat → Int32) : Mem := (fun a' b' c' => if a' = a ∧ b' = b ∧ c' = c then f else σ.1 a' b' c', σ.2)
def sLf (σ : Mem) (a b c : Nat) (f : Nat → Int64) : Mem := (σ.1, fun a' b' c' => if a' = a ∧ b' = b ∧ c' = c then f else σ.2.1 a' b' c', σ.2.2)
def sBf (σ : Mem) (a b c : Nat) (f : Nat → Bool) : Mem := (σ.1, σ.2.1, fun a' b' c' => if a' = a ∧ b' = b ∧ c' = c then f else σ.2.2.1 a' b' c', σ.2.2.2)
def sRf (σ : Mem) (a b c : Nat) (f : Nat → Nat) : Mem := (σ.1, σ.2.1, σ.2.2.1, fun a' b' c' => if a' = a ∧ b' = b ∧ c' = c then f else σ.2.2.2 a' b' c')
abbrev gI (σ : Mem) (a b c : Nat) : Nat → Int32 := σ.1 a b c
abbrev gL (σ : Mem) (a b c : Nat) : Nat → Int64 := σ.2.1 a b c
abbrev gB (σ : Mem) (a b c : Nat) : Nat → Bool := σ.2.2.1 a b c
abbrev gR (σ : Mem) (a b c : Nat) : Nat → Nat := σ.2.2.2 a b c
abbrev sI (σ : Mem) (a b c k : Nat) (v : Int32) : Mem := sIf σ a b c (upd (gI σ a b c) k v)
abbrev sL (σ : Mem) (a b c k : Nat) (v : Int64) : Mem := sLf σ a b c (vp_updL (gL σ a b c) k v)
abbrev sB (σ : Mem) (a b c k : Nat) (v : Bool) : Mem := sBf σ a b c (upB (gB σ a b c) k v)
abbrev sR (σ : Mem) (a b c k : Nat) (v : Nat) : Mem := sRf σ a b c (upR (gR σ a b c) k v)
def wdE (V : WSp) (σ : Mem) (q : Nat × Nat × Nat) : Nat × va_E := (V.2.1 q.1 q.2.1 q.2.2, V.2.2 q.1 q.2.1 q.2.2 (gI σ q.1 q.2.1 q.2.2) (gL σ q.1 q.2.1 q.2.2) (gB σ q.1 q.2.1 q.2.2) (gR σ q.1 q.2.1 q.2.2))
def wd (V : WSp) (σ : Mem) : va_W := V.1.map (wdE V σ)
theorem wd_at {V : WSp} {σ : Mem} {a b c : Nat} (h : (a, b, c) ∈ V.1) : ∃ q0 : Nat, V.1[q0]? = some (a, b, c) ∧ (wd V σ)[q0]? = some (V.2.1 a b c, V.2.2 a b c (gI σ a b c) (gL σ a b c) (gB σ a b c) (gR σ a b c)) := by
  obtain ⟨q0, h0⟩ := List.mem_iff_getElem?.mp h
  exact ⟨q0, h0, by simp [wd, wdE, List.getElem?_map, h0]⟩
theorem wd_set {V : WSp} {σ σ' : Mem} {a b c q0 : Nat} {e : va_E} (hn : V.1.Nodup) (h0 : V.1[q0]? = some (a, b, c)) (he : wdE V σ' (a, b, c) = (V.2.1 a b c, e))
    (ho : ∀ q : Nat × Nat × Nat, q ≠ (a, b, c) → wdE V σ' q = wdE V σ q) : (wd V σ).set q0 (V.2.1 a b c, e) = wd V σ' := by
  apply List.ext_getElem?
  intro i
  rw [List.getElem?_set]
  have hl : q0 < V.1.length := (List.getElem?_eq_some_iff.mp h0).1
  by_cases hi : q0 = i
  · subst hi
    have hl2 : q0 < (wd V σ).length := by simpa [wd] using hl
    rw [if_pos rfl, if_pos hl2]
    simp only [wd, List.getElem?_map, h0, Option.map_some, he]
  · simp only [hi, if_false, wd, List.getElem?_map]
    cases hq : V.1[i]? with
    | none => rfl
    | some q =>
      have hne : q ≠ (a, b, c) := by
        intro e1
        subst e1
        exact hi ((List.getElem?_inj hl hn).mp (h0.trans hq.symm))
      simp [ho q hne]
theorem wd_ne {a b c : Nat} {q : Nat × Nat × Nat} (h : q ≠ (a, b, c)) : ¬ (q.1 = a ∧ q.2.1 = b ∧ q.2.2 = c) := fun ⟨h1, h2, h3⟩ => h (by rcases q with ⟨x, y, z⟩; simp at h1 h2 h3; simp [h1, h2, h3])
theorem wd_I {V : WSp} {σ : Mem} {a b c q0 : Nat} {f : Nat → Int32} {e : va_E} (hn : V.1.Nodup) (h0 : V.1[q0]? = some (a, b, c)) (he : V.2.2 a b c f (gL σ a b c) (gB σ a b c) (gR σ a b c) = e) : (wd V σ).set q0 (V.2.1 a b c, e) = wd V (sIf σ a b c f) :=
  wd_set hn h0 (by simp [wdE, sIf, he, gI, gL, gB, gR]) (fun q h => by simp [wdE, sIf, wd_ne h, gI, gL, gB, gR])
theorem wd_L {V : WSp} {σ : Mem} {a b c q0 : Nat} {f : Nat → Int64} {e : va_E} (hn : V.1.Nodup) (h0 : V.1[q0]? = some (a, b, c)) (he : V.2.2 a b c (gI σ a b c) f (gB σ a b c) (gR σ a b c) = e) : (wd V σ).set q0 (V.2.1 a b c, e) = wd V (sLf σ a b c f) :=
  wd_set hn h0 (by simp [wdE, sLf, he, gI, gL, gB, gR]) (fun q h => by simp [wdE, sLf, wd_ne h, gI, gL, gB, gR])
theorem wd_B {V : WSp} {σ : Mem} {a b c q0 : Nat} {f : Nat → Bool} {e : va_E} (hn : V.1.Nodup) (h0 : V.1[q0]? = some (a, b, c)) (he : V.2.2 a b c (gI σ a b c) (gL σ a b c) f (gR σ a b c) = e) : (wd V σ).set q0 (V.2.1 a b c, e) = wd V (sBf σ a b c f) :=
  wd_set hn h0 (by simp [wdE, sBf, he, gI, gL, gB, gR]) (fun q h => by simp [wdE, sBf, wd_ne h, gI, gL, gB, gR])
theorem wd_R {V : WSp} {σ : Mem} {a b c q0 : Nat} {f : Nat → Nat} {e : va_E} (hn : V.1.Nodup) (h0 : V.1[q0]? = some (a, b, c)) (he : V.2.2 a b c (gI σ a b c) (gL σ a b c) (gB σ a b c) f = e) : (wd V σ).set q0 (V.2.1 a b c, e) = wd V (sRf σ a b c f) :=
  wd_set hn h0 (by simp [wdE, sRf, he, gI, gL, gB, gR]) (fun q h => by simp [wdE, sRf, wd_ne h, gI, gL, gB, gR])
theorem wd_D {V : WSp} {σ σ' : Mem} {A : Nat → Prop} (h : va_D A (wd V σ)) : va_D A (wd V σ') := by
  have key : ∀ (k : Nat) (q : Nat × va_E), (wd V σ')[k]? = some q → ∃ e, (wd V σ)[k]? = some (q.1, e) := by
    intro k q hq
    simp only [wd, List.getElem?_map, Option.map_eq_some_iff] at hq ⊢
    obtain ⟨z, h1, h2⟩ := hq
    exact ⟨(wdE V σ z).2, z, h1, by rw [← h2]; rfl⟩
  refine ⟨fun i j p q hi hj e => ?_, fun k q hk => ?_⟩
  · obtain ⟨e1, h1⟩ := key i p hi
    obtain ⟨e2, h2⟩ := key j q hj
    exact h.1 i j _ _ h1 h2 e
  · obtain ⟨e1, h1⟩ := key k q hk
    exact h.2 k (q.1, e1) h1
def rmL (lv : Nat) : Room := { frames := 2 * lv + 2, cells := 0, slots := 0, locals := 120 * lv + 120 }
def wsY (Y : MD) : List Cond := Cond.code Y.1 Y.2.1 Y.2.2.1 Y.2.2.2 :: Gw
/-- what stands at every pc of a body -/
def CX (X : Ctx) (Y : MD) (p : Program) (s : State) (m : MethodId) (args : Array Value) (meth : Method) (c : Code) : Prop :=
  p.tables.exec = Jvm.exec ∧ c.code = Y.2.1 ∧ c.maxLocals = Y.2.2.1 ∧ s.vm.findClass Y.1.cls = some m.cls ∧ (∀ w ∈ Gw, w.before args s = true) ∧ va_K X.2.1 vwCl X.2.2.1 s ∧ meth.sig.returnType = Y.2.2.2 ∧ meth.locks = false ∧ NW s
def qQ (X : Ctx) (rv : Option Value) (σ1 : Mem) (A : Nat → Prop) : Array Value → State → Outcome → State → Prop := fun _ st oc t =>
  (oc = .returned rv ∧ va_P X.2.1 vwCl (wd X.2.2.2 σ1) t.heap ∧ va_K X.2.1 vwCl X.2.2.1 t) ∧ va_F A st t
def AW (X : Ctx) (Y : MD) (lv : Nat) {α : Type} (emb : α → Option Value) (ls : List (Nat × Value)) (pc : Nat) (st : List Value) (σ : Mem) (E : Option (α × Mem)) : Prop :=
  ∀ (r : α) (σ1 : Mem), E = some (r, σ1) → ∀ (p : Program) (e : Env) (s : State) (m : MethodId) (args : Array Value) (below : List Frame) (meth : Method) (c : Code) (H : Heap) (locs : List Loc) (A : Nat → Prop) (L : Array Slot),
    CX X Y p s m args meth c → lv_has L Y.2.2.1 ls → va_P X.2.1 vwCl (wd X.2.2.2 σ) H → va_D A (wd X.2.2.2 σ) → va_S A s.heap H locs → (∀ q, s.heap.size ≤ q → A q) →
    W p X.1 e (rmL lv) s m args below meth c H locs 0 0 (MQ below (qQ X (emb r) σ1 A) args s 0 0 A) (F0 m pc L st)
/-- a method's contract: from the memory σ it returns rv, the memory is σ1 then -/
def AM (X : Ctx) (Y : MD) (lv : Nat) (args : List Value) (σ : Mem) (rv : Option Value) (σ1 : Mem) : Prop :=
  ∀ sz : Nat, Met X.1 Y.1 (wsY Y) (rmL lv) (va_Pc args (fun U => U.heap.size = sz ∧ va_P X.2.1 vwCl (wd X.2.2.2 σ) U.heap ∧ va_K X.2.1 vwCl X.2.2.1 U ∧ va_D (fun _ => True) (wd X.2.2.2 σ) ∧ NW U)) (qQ X rv σ1 (va_A (wd X.2.2.2 σ) sz)) 0 0 (va_A (wd X.2.2.2 σ) sz)
def AMF (X : Ctx) (Y : MD) (lv : Nat) {α : Type} (emb : α → Option Value) (args : List Value) (σ : Mem) (E : Option (α × Mem)) : Prop := ∀ (r : α) (σ1 : Mem), E = some (r, σ1) → AM X Y lv args σ (emb r) σ1
abbrev eU : Unit → Option Value := fun _ => none
abbrev eI : Int32 → Option Value := fun x => some (.int x)
abbrev eL : Int64 → Option Value := fun x => some (.long x)
abbrev eB : Bool → Option Value := fun b => some (.int (b2i b))
theorem AM.ofW {X : Ctx} {Y : MD} {lv : Nat} {α : Type} {emb : α → Option Value} {args : List Value} {ls : List (Nat × Value)} {σ : Mem} {E : Option (α × Mem)} (hy : plainName Y.1.cls = true) (hn : (lg_sl args).length ≤ Y.2.2.1) (hls : lv_args 0 args = ls)
    (k : AW X Y lv emb ls 0 [] σ E) : AMF X Y lv emb args σ E := by
  intro r σ1 hE sz
  refine Met.ofW (cc := Y.2.1) (maxL := Y.2.2.1) (ret := Y.2.2.2) hy rfl ?_
  intro p e s m args' below meth c s₁ B hml hv
  obtain ⟨rfl, hsz, hP, hK, hD0, hN⟩ := hv
  have hts := atoms_spec (ws := wsY Y) B.pre
  subst hsz
  rw [lg_entry_eq]
  exact k r σ1 hE p e s m _ below meth c s.heap [] _ _ ⟨B.exec, B.bytes, hml, findClass_of_methodNamed B.named, fun w hw => hts w (List.mem_cons_of_mem _ hw), hK, B.returns, B.notSynchronized, hN⟩ (hls ▸ lv_entry args hn) hP hD0.self va_S.rf (fun q h => Or.inr h)
section AWR
variable {X : Ctx} {Y : MD} {lv : Nat} {α : Type} {emb : α → Option Value} {ls ls' : List (Nat × Value)} {pc : Nat} {st : List Value} {σ : Mem} {E E' : Option (α × Mem)}
theorem aw_eq (h : E = E') (k : AW X Y lv emb ls pc st σ E') : AW X Y lv emb ls pc st σ E := h ▸ k
theorem aw_none : AW X Y lv emb ls pc st σ none := fun _ _ h => by cases h
theorem aw_ls (ks : List Nat) (hl : lv_pick ls ks = ls') (k : AW X Y lv emb ls' pc st σ E) : AW X Y lv emb ls pc st σ E :=
  fun r σ1 hE p e s m args below meth c H locs A L hc hL hP hD hS hA => k r σ1 hE p e s m args below meth c H locs A L hc (lv_sub hL ks hl) hP hD hS hA
theorem aw_aload {i : Nat} {x : Nat} (q : Nat) (hdg : decode Y.2.1 pc = .ok (.aload i, 2)) (hl : ls[q]? = some (i, .ref x)) (k : AW X Y lv emb ls (pc + 2) (.ref x :: st) σ E) : AW X Y lv emb ls pc st σ E :=
  fun r σ1 hE p e s m args below meth c H locs A L hc hL hP hD hS hA => lv_aload hc.1 hc.2.1 hdg (lv_at hL q hl) (k r σ1 hE p e s m args below meth c H locs A L hc hL hP hD hS hA)
theorem aw_aload_n {i : Nat} {j : Fin 4} {x : Nat} (q : Nat) (hdg : decode Y.2.1 pc = .ok (.aload_n j, 1)) (hi : (j : Nat) = i) (hl : ls[q]? = some (i, .ref x)) (k : AW X Y lv emb ls (pc + 1) (.ref x :: st) σ E) : AW X Y lv emb ls pc st σ E :=
  fun r σ1 hE p e s m args below meth c H locs A L hc hL hP hD hS hA => lv_aload_n hc.1 hc.2.1 hdg hi (lv_at hL q hl) (k r σ1 hE p e s m args below meth c H locs A L hc hL hP hD hS hA)
theorem aw_iload {i : Nat} {x : Int32} (q : Nat) (hdg : decode Y.2.1 pc = .ok (.iload i, 2)) (hl : ls[q]? = some (i, .int x)) (k : AW X Y lv emb ls (pc + 2) (.int x :: st) σ E) : AW X Y lv emb ls pc st σ E :=
  fun r σ1 hE p e s m args below meth c H locs A L hc hL hP hD hS hA => lv_iload hc.1 hc.2.1 hdg (lv_at hL q hl) (k r σ1 hE p e s m args below meth c H locs A L hc hL hP hD hS hA)
theorem aw_iload_n {i : Nat} {j : Fin 4} {x : Int32} (q : Nat) (hdg : decode Y.2.1 pc = .ok (.iload_n j, 1)) (hi : (j : Nat) = i) (hl : ls[q]? = some (i, .int x)) (k : AW X Y lv emb ls (pc + 1) (.int x :: st) σ E) : AW X Y lv emb ls pc st σ E :=
  fun r σ1 hE p e s m args below meth c H locs A L hc hL hP hD hS hA => lv_iload_n hc.1 hc.2.1 hdg hi (lv_at hL q hl) (k r σ1 hE p e s m args below meth c H locs A L hc hL hP hD hS hA)
theorem aw_lload {i : Nat} {x : Int64} (q : Nat) (hdg : decode Y.2.1 pc = .ok (.lload i, 2)) (hl : ls[q]? = some (i, .long x)) (k : AW X Y lv emb ls (pc + 2) (.long x :: st) σ E) : AW X Y lv emb ls pc st σ E :=
  fun r σ1 hE p e s m args below meth c H locs A L hc hL hP hD hS hA => lv_lload hc.1 hc.2.1 hdg (lv_at hL q hl) (k r σ1 hE p e s m args below meth c H locs A L hc hL hP hD hS hA)
theorem aw_lload_n {i : Nat} {j : Fin 4} {x : Int64} (q : Nat) (hdg : decode Y.2.1 pc = .ok (.lload_n j, 1)) (hi : (j : Nat) = i) (hl : ls[q]? = some (i, .long x)) (k : AW X Y lv emb ls (pc + 1) (.long x :: st) σ E) : AW X Y lv emb ls pc st σ E :=
  fun r σ1 hE p e s m args below meth c H locs A L hc hL hP hD hS hA => lv_lload_n hc.1 hc.2.1 hdg hi (lv_at hL q hl) (k r σ1 hE p e s m args below meth c H locs A L hc hL hP hD hS hA)
theorem aw_iconst {n : Int} (v : Int32) (hdg : decode Y.2.1 pc = .ok (.iconst n, 1)) (hv : Int32.ofInt n = v) (k : AW X Y lv emb ls (pc + 1) (.int v :: st) σ E) : AW X Y lv emb ls pc st σ E :=
  fun r σ1 hE p e s m args below meth c H locs A L hc hL hP hD hS hA => lv_iconst hc.1 hc.2.1 hdg hv (k r σ1 hE p e s m args below meth c H locs A L hc hL hP hD hS hA)
theorem aw_bipush {n : Int} (v : Int32) (hdg : decode Y.2.1 pc = .ok (.bipush n, 2)) (hv : (Int8.ofInt n).toInt32 = v) (k : AW X Y lv emb ls (pc + 2) (.int v :: st) σ E) : AW X Y lv emb ls pc st σ E :=
  fun r σ1 hE p e s m args below meth c H locs A L hc hL hP hD hS hA => lv_bipush hc.1 hc.2.1 hdg hv (k r σ1 hE p e s m args below meth c H locs A L hc hL hP hD hS hA)
theorem aw_sipush {n : Int} (v : Int32) (hdg : decode Y.2.1 pc = .ok (.sipush n, 3)) (hv : (Int16.ofInt n).toInt32 = v) (k : AW X Y lv emb ls (pc + 3) (.int v :: st) σ E) : AW X Y lv emb ls pc st σ E :=
  fun r σ1 hE p e s m args below meth c H locs A L hc hL hP hD hS hA => lv_sipush hc.1 hc.2.1 hdg hv (k r σ1 hE p e s m args below meth c H locs A L hc hL hP hD hS hA)
theorem aw_lconst {n : Fin 2} (v : Int64) (hdg : decode Y.2.1 pc = .ok (.lconst n, 1)) (hv : Int64.ofNat (n : Nat) = v) (k : AW X Y lv emb ls (pc + 1) (.long v :: st) σ E) : AW X Y lv emb ls pc st σ E :=
  fun r σ1 hE p e s m args below meth c H locs A L hc hL hP hD hS hA => lv_lconst hc.1 hc.2.1 hdg hv (k r σ1 hE p e s m args below meth c H locs A L hc hL hP hD hS hA)
theorem aw_ldc {i : Nat} {v : Int32} (hw : Cond.constant Y.1.cls i v ∈ Gw) (hdg : decode Y.2.1 pc = .ok (.ldc i, 2)) (k : AW X Y lv emb ls (pc + 2) (.int v :: st) σ E) : AW X Y lv emb ls pc st σ E :=
  fun r σ1 hE p e s m args below meth c H locs A L hc hL hP hD hS hA => lv_ldc hc.1 hc.2.1 hc.2.2.2.1 (hc.2.2.2.2.1 _ hw) hdg (k r σ1 hE p e s m args below meth c H locs A L hc hL hP hD hS hA)
theorem aw_ldc2 {i : Nat} {v : Int64} (hw : Cond.constantLong Y.1.cls i v ∈ Gw) (hdg : decode Y.2.1 pc = .ok (.ldc2_w i, 3)) (k : AW X Y lv emb ls (pc + 3) (.long v :: st) σ E) : AW X Y lv emb ls pc st σ E :=
  fun r σ1 hE p e s m args below meth c H locs A L hc hL hP hD hS hA => lv_ldc2 hc.1 hc.2.1 hc.2.2.2.1 (hc.2.2.2.2.1 _ hw) hdg (k r σ1 hE p e s m args below meth c H locs A L hc hL hP hD hS hA)
theorem aw_goto {off : Int} (tgt : Nat) (hdg : decode Y.2.1 pc = .ok (.goto off, 3)) (ht : (pc : Int) + off = (tgt : Int)) (k : AW X Y lv emb ls tgt st σ E) : AW X Y lv emb ls pc st σ E :=
  fun r σ1 hE p e s m args below meth c H locs A L hc hL hP hD hS hA => lv_goto hc.1 hc.2.1 hdg ht (k r σ1 hE p e s m args below meth c H locs A L hc hL hP hD hS hA)
theorem aw_pop {v : Value} (hdg : decode Y.2.1 pc = .ok (.pop, 1)) (hv : v.category = 1) (k : AW X Y lv emb ls (pc + 1) st σ E) : AW X Y lv emb ls pc (v :: st) σ E :=
  fun r σ1 hE p e s m args below meth c H locs A L hc hL hP hD hS hA => lv_pop hc.1 hc.2.1 hdg hv (k r σ1 hE p e s m args below meth c H locs A L hc hL hP hD hS hA)
theorem aw_dup {v : Value} (hdg : decode Y.2.1 pc = .ok (.dup, 1)) (hv : v.category = 1) (k : AW X Y lv emb ls (pc + 1) (v :: v :: st) σ E) : AW X Y lv emb ls pc (v :: st) σ E :=
  fun r σ1 hE p e s m args below meth c H locs A L hc hL hP hD hS hA => lv_dup hc.1 hc.2.1 hdg hv (k r σ1 hE p e s m args below meth c H locs A L hc hL hP hD hS hA)
end AWR
