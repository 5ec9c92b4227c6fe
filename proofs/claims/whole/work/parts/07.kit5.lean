/-! the abstract walk: calls by kind and by what comes back; the library's few methods -/
def bd {β γ : Type} (e : Option (β × Mem)) (K : β → Mem → Option γ) : Option γ := e.bind (fun q => K q.1 q.2)
section AWC5
variable {X : Ctx} {Y Y' : MD} {lv lv' : Nat} {α : Type} {emb : α → Option Value} {ls : List (Nat × Value)} {pc idx n : Nat} {st st0 : List Value} {σ : Mem} {E : Option (α × Mem)} {γ : Type} {e' : Option γ} {G : γ → Option (α × Mem)}
theorem aw_callVW_U {a b ci N : Nat} {T : u_T} {ty : Nat → FieldType} {As : List Value} {E' : Option (Unit × Mem)} {K : Unit → Mem → Option γ} (hM : AMF X Y' lv' eU (.ref (X.2.2.2.2.1 a b 0) :: As) σ E') (hO : IsO X a b ci) (hci : CI ci Y'.1.cls T N ty) (hlv : lv' < lv) (hok : MOK Y' n) (hin : Cond.instanceMethod Y'.1 ∈ Gw) (hse : Cond.selects Y'.1.cls Y'.1 Y'.1 ∈ Gw) (hli : Cond.methodLink Y.1.cls idx Y'.1 ∈ Gw) (hn : As.length = n) (hst : st0 = As.reverse ++ .ref (X.2.2.2.2.1 a b 0) :: st) (hro : (st.map fun v => v.category).sum ≤ 8) (hdg : decode Y.2.1 pc = .ok (.invokevirtual idx, 3))
    (k : ∀ (_v : Unit) (s1 : Mem), AW X Y lv emb ls (pc + 3) st s1 ((K _v s1).bind G)) : AW X Y lv emb ls pc st0 σ ((bd E' K).bind G) := by
  refine aw_eq (E' := E'.bind (fun q => (K q.1 q.2).bind G)) (by cases E' <;> rfl) ?_
  exact aw_callV0 (K := fun v s1 => (K v s1).bind G) hM hO hci hlv hok hin hse hli hn hst hro hdg (fun v s1 _ => k v s1)
theorem aw_callVW_I {a b ci N : Nat} {T : u_T} {ty : Nat → FieldType} {As : List Value} {E' : Option (Int32 × Mem)} {K : Int32 → Mem → Option γ} (hM : AMF X Y' lv' eI (.ref (X.2.2.2.2.1 a b 0) :: As) σ E') (hO : IsO X a b ci) (hci : CI ci Y'.1.cls T N ty) (hlv : lv' < lv) (hok : MOK Y' n) (hin : Cond.instanceMethod Y'.1 ∈ Gw) (hse : Cond.selects Y'.1.cls Y'.1 Y'.1 ∈ Gw) (hli : Cond.methodLink Y.1.cls idx Y'.1 ∈ Gw) (hn : As.length = n) (hst : st0 = As.reverse ++ .ref (X.2.2.2.2.1 a b 0) :: st) (hro : (st.map fun v => v.category).sum ≤ 8) (hdg : decode Y.2.1 pc = .ok (.invokevirtual idx, 3))
    (k : ∀ (v : Int32) (s1 : Mem), AW X Y lv emb ls (pc + 3) (.int v :: st) s1 ((K v s1).bind G)) : AW X Y lv emb ls pc st0 σ ((bd E' K).bind G) := by
  refine aw_eq (E' := E'.bind (fun q => (K q.1 q.2).bind G)) (by cases E' <;> rfl) ?_
  exact aw_callV0 (K := fun v s1 => (K v s1).bind G) hM hO hci hlv hok hin hse hli hn hst hro hdg (fun v s1 _ => k v s1)
theorem aw_callVO_I {a b ci N : Nat} {T : u_T} {ty : Nat → FieldType} {As : List Value} {e' : Option Int32} {K : Int32 → Option γ} (hM : AMF X Y' lv' eI (.ref (X.2.2.2.2.1 a b 0) :: As) σ (oM σ e')) (hO : IsO X a b ci) (hci : CI ci Y'.1.cls T N ty) (hlv : lv' < lv) (hok : MOK Y' n) (hin : Cond.instanceMethod Y'.1 ∈ Gw) (hse : Cond.selects Y'.1.cls Y'.1 Y'.1 ∈ Gw) (hli : Cond.methodLink Y.1.cls idx Y'.1 ∈ Gw) (hn : As.length = n) (hst : st0 = As.reverse ++ .ref (X.2.2.2.2.1 a b 0) :: st) (hro : (st.map fun v => v.category).sum ≤ 8) (hdg : decode Y.2.1 pc = .ok (.invokevirtual idx, 3))
    (k : ∀ (v : Int32), AW X Y lv emb ls (pc + 3) (.int v :: st) σ ((K v).bind G)) : AW X Y lv emb ls pc st0 σ ((e'.bind K).bind G) := by
  refine aw_eq (E' := (oM σ e').bind (fun q => (K q.1).bind G)) (by cases e' <;> rfl) ?_
  refine aw_callV0 (K := fun v _ => (K v).bind G) hM hO hci hlv hok hin hse hli hn hst hro hdg (fun v s1 h => ?_)
  cases e' with
  | none => cases h
  | some z => cases h; exact k v
theorem aw_callVT_I {a b ci N : Nat} {T : u_T} {ty : Nat → FieldType} {As : List Value} {v : Int32} (hM : AMF X Y' lv' eI (.ref (X.2.2.2.2.1 a b 0) :: As) σ (some (v, σ))) (hO : IsO X a b ci) (hci : CI ci Y'.1.cls T N ty) (hlv : lv' < lv) (hok : MOK Y' n) (hin : Cond.instanceMethod Y'.1 ∈ Gw) (hse : Cond.selects Y'.1.cls Y'.1 Y'.1 ∈ Gw) (hli : Cond.methodLink Y.1.cls idx Y'.1 ∈ Gw) (hn : As.length = n) (hst : st0 = As.reverse ++ .ref (X.2.2.2.2.1 a b 0) :: st) (hro : (st.map fun v => v.category).sum ≤ 8) (hdg : decode Y.2.1 pc = .ok (.invokevirtual idx, 3))
    (k : AW X Y lv emb ls (pc + 3) (.int v :: st) σ E) : AW X Y lv emb ls pc st0 σ E :=
  aw_callV0 (K := fun _ _ => E) hM hO hci hlv hok hin hse hli hn hst hro hdg (fun v s1 h => by cases h; exact k)
theorem aw_callVW_L {a b ci N : Nat} {T : u_T} {ty : Nat → FieldType} {As : List Value} {E' : Option (Int64 × Mem)} {K : Int64 → Mem → Option γ} (hM : AMF X Y' lv' eL (.ref (X.2.2.2.2.1 a b 0) :: As) σ E') (hO : IsO X a b ci) (hci : CI ci Y'.1.cls T N ty) (hlv : lv' < lv) (hok : MOK Y' n) (hin : Cond.instanceMethod Y'.1 ∈ Gw) (hse : Cond.selects Y'.1.cls Y'.1 Y'.1 ∈ Gw) (hli : Cond.methodLink Y.1.cls idx Y'.1 ∈ Gw) (hn : As.length = n) (hst : st0 = As.reverse ++ .ref (X.2.2.2.2.1 a b 0) :: st) (hro : (st.map fun v => v.category).sum ≤ 8) (hdg : decode Y.2.1 pc = .ok (.invokevirtual idx, 3))
    (k : ∀ (v : Int64) (s1 : Mem), AW X Y lv emb ls (pc + 3) (.long v :: st) s1 ((K v s1).bind G)) : AW X Y lv emb ls pc st0 σ ((bd E' K).bind G) := by
  refine aw_eq (E' := E'.bind (fun q => (K q.1 q.2).bind G)) (by cases E' <;> rfl) ?_
  exact aw_callV0 (K := fun v s1 => (K v s1).bind G) hM hO hci hlv hok hin hse hli hn hst hro hdg (fun v s1 _ => k v s1)
theorem aw_callVO_L {a b ci N : Nat} {T : u_T} {ty : Nat → FieldType} {As : List Value} {e' : Option Int64} {K : Int64 → Option γ} (hM : AMF X Y' lv' eL (.ref (X.2.2.2.2.1 a b 0) :: As) σ (oM σ e')) (hO : IsO X a b ci) (hci : CI ci Y'.1.cls T N ty) (hlv : lv' < lv) (hok : MOK Y' n) (hin : Cond.instanceMethod Y'.1 ∈ Gw) (hse : Cond.selects Y'.1.cls Y'.1 Y'.1 ∈ Gw) (hli : Cond.methodLink Y.1.cls idx Y'.1 ∈ Gw) (hn : As.length = n) (hst : st0 = As.reverse ++ .ref (X.2.2.2.2.1 a b 0) :: st) (hro : (st.map fun v => v.category).sum ≤ 8) (hdg : decode Y.2.1 pc = .ok (.invokevirtual idx, 3))
    (k : ∀ (v : Int64), AW X Y lv emb ls (pc + 3) (.long v :: st) σ ((K v).bind G)) : AW X Y lv emb ls pc st0 σ ((e'.bind K).bind G) := by
  refine aw_eq (E' := (oM σ e').bind (fun q => (K q.1).bind G)) (by cases e' <;> rfl) ?_
  refine aw_callV0 (K := fun v _ => (K v).bind G) hM hO hci hlv hok hin hse hli hn hst hro hdg (fun v s1 h => ?_)
  cases e' with
  | none => cases h
  | some z => cases h; exact k v
theorem aw_callVT_L {a b ci N : Nat} {T : u_T} {ty : Nat → FieldType} {As : List Value} {v : Int64} (hM : AMF X Y' lv' eL (.ref (X.2.2.2.2.1 a b 0) :: As) σ (some (v, σ))) (hO : IsO X a b ci) (hci : CI ci Y'.1.cls T N ty) (hlv : lv' < lv) (hok : MOK Y' n) (hin : Cond.instanceMethod Y'.1 ∈ Gw) (hse : Cond.selects Y'.1.cls Y'.1 Y'.1 ∈ Gw) (hli : Cond.methodLink Y.1.cls idx Y'.1 ∈ Gw) (hn : As.length = n) (hst : st0 = As.reverse ++ .ref (X.2.2.2.2.1 a b 0) :: st) (hro : (st.map fun v => v.category).sum ≤ 8) (hdg : decode Y.2.1 pc = .ok (.invokevirtual idx, 3))
    (k : AW X Y lv emb ls (pc + 3) (.long v :: st) σ E) : AW X Y lv emb ls pc st0 σ E :=
  aw_callV0 (K := fun _ _ => E) hM hO hci hlv hok hin hse hli hn hst hro hdg (fun v s1 h => by cases h; exact k)
theorem aw_callVW_B {a b ci N : Nat} {T : u_T} {ty : Nat → FieldType} {As : List Value} {E' : Option (Bool × Mem)} {K : Bool → Mem → Option γ} (hM : AMF X Y' lv' eB (.ref (X.2.2.2.2.1 a b 0) :: As) σ E') (hO : IsO X a b ci) (hci : CI ci Y'.1.cls T N ty) (hlv : lv' < lv) (hok : MOK Y' n) (hin : Cond.instanceMethod Y'.1 ∈ Gw) (hse : Cond.selects Y'.1.cls Y'.1 Y'.1 ∈ Gw) (hli : Cond.methodLink Y.1.cls idx Y'.1 ∈ Gw) (hn : As.length = n) (hst : st0 = As.reverse ++ .ref (X.2.2.2.2.1 a b 0) :: st) (hro : (st.map fun v => v.category).sum ≤ 8) (hdg : decode Y.2.1 pc = .ok (.invokevirtual idx, 3))
    (k : ∀ (v : Bool) (s1 : Mem), AW X Y lv emb ls (pc + 3) (.int (b2i v) :: st) s1 ((K v s1).bind G)) : AW X Y lv emb ls pc st0 σ ((bd E' K).bind G) := by
  refine aw_eq (E' := E'.bind (fun q => (K q.1 q.2).bind G)) (by cases E' <;> rfl) ?_
  exact aw_callV0 (K := fun v s1 => (K v s1).bind G) hM hO hci hlv hok hin hse hli hn hst hro hdg (fun v s1 _ => k v s1)
theorem aw_callVO_B {a b ci N : Nat} {T : u_T} {ty : Nat → FieldType} {As : List Value} {e' : Option Bool} {K : Bool → Option γ} (hM : AMF X Y' lv' eB (.ref (X.2.2.2.2.1 a b 0) :: As) σ (oM σ e')) (hO : IsO X a b ci) (hci : CI ci Y'.1.cls T N ty) (hlv : lv' < lv) (hok : MOK Y' n) (hin : Cond.instanceMethod Y'.1 ∈ Gw) (hse : Cond.selects Y'.1.cls Y'.1 Y'.1 ∈ Gw) (hli : Cond.methodLink Y.1.cls idx Y'.1 ∈ Gw) (hn : As.length = n) (hst : st0 = As.reverse ++ .ref (X.2.2.2.2.1 a b 0) :: st) (hro : (st.map fun v => v.category).sum ≤ 8) (hdg : decode Y.2.1 pc = .ok (.invokevirtual idx, 3))
    (k : ∀ (v : Bool), AW X Y lv emb ls (pc + 3) (.int (b2i v) :: st) σ ((K v).bind G)) : AW X Y lv emb ls pc st0 σ ((e'.bind K).bind G) := by
  refine aw_eq (E' := (oM σ e').bind (fun q => (K q.1).bind G)) (by cases e' <;> rfl) ?_
  refine aw_callV0 (K := fun v _ => (K v).bind G) hM hO hci hlv hok hin hse hli hn hst hro hdg (fun v s1 h => ?_)
  cases e' with
  | none => cases h
  | some z => cases h; exact k v
theorem aw_callVT_B {a b ci N : Nat} {T : u_T} {ty : Nat → FieldType} {As : List Value} {v : Bool} (hM : AMF X Y' lv' eB (.ref (X.2.2.2.2.1 a b 0) :: As) σ (some (v, σ))) (hO : IsO X a b ci) (hci : CI ci Y'.1.cls T N ty) (hlv : lv' < lv) (hok : MOK Y' n) (hin : Cond.instanceMethod Y'.1 ∈ Gw) (hse : Cond.selects Y'.1.cls Y'.1 Y'.1 ∈ Gw) (hli : Cond.methodLink Y.1.cls idx Y'.1 ∈ Gw) (hn : As.length = n) (hst : st0 = As.reverse ++ .ref (X.2.2.2.2.1 a b 0) :: st) (hro : (st.map fun v => v.category).sum ≤ 8) (hdg : decode Y.2.1 pc = .ok (.invokevirtual idx, 3))
    (k : AW X Y lv emb ls (pc + 3) (.int (b2i v) :: st) σ E) : AW X Y lv emb ls pc st0 σ E :=
  aw_callV0 (K := fun _ _ => E) hM hO hci hlv hok hin hse hli hn hst hro hdg (fun v s1 h => by cases h; exact k)
theorem aw_callSW_U {As : List Value} {E' : Option (Unit × Mem)} {K : Unit → Mem → Option γ} (hM : AMF X Y' lv' eU As σ E') (hlv : lv' < lv) (hok : MOK Y' n) (hsta : Cond.static Y'.1 ∈ Gw) (hli : Cond.methodLink Y.1.cls idx Y'.1 ∈ Gw) (hn : As.length = n) (hst : st0 = As.reverse ++ st) (hro : (st.map fun v => v.category).sum ≤ 8) (hdg : decode Y.2.1 pc = .ok (.invokestatic idx, 3))
    (k : ∀ (_v : Unit) (s1 : Mem), AW X Y lv emb ls (pc + 3) st s1 ((K _v s1).bind G)) : AW X Y lv emb ls pc st0 σ ((bd E' K).bind G) := by
  refine aw_eq (E' := E'.bind (fun q => (K q.1 q.2).bind G)) (by cases E' <;> rfl) ?_
  exact aw_callS0 (K := fun v s1 => (K v s1).bind G) hM hlv hok hsta hli hn hst hro hdg (fun v s1 _ => k v s1)
theorem aw_callSW_I {As : List Value} {E' : Option (Int32 × Mem)} {K : Int32 → Mem → Option γ} (hM : AMF X Y' lv' eI As σ E') (hlv : lv' < lv) (hok : MOK Y' n) (hsta : Cond.static Y'.1 ∈ Gw) (hli : Cond.methodLink Y.1.cls idx Y'.1 ∈ Gw) (hn : As.length = n) (hst : st0 = As.reverse ++ st) (hro : (st.map fun v => v.category).sum ≤ 8) (hdg : decode Y.2.1 pc = .ok (.invokestatic idx, 3))
    (k : ∀ (v : Int32) (s1 : Mem), AW X Y lv emb ls (pc + 3) (.int v :: st) s1 ((K v s1).bind G)) : AW X Y lv emb ls pc st0 σ ((bd E' K).bind G) := by
  refine aw_eq (E' := E'.bind (fun q => (K q.1 q.2).bind G)) (by cases E' <;> rfl) ?_
  exact aw_callS0 (K := fun v s1 => (K v s1).bind G) hM hlv hok hsta hli hn hst hro hdg (fun v s1 _ => k v s1)
theorem aw_callSO_I {As : List Value} {e' : Option Int32} {K : Int32 → Option γ} (hM : AMF X Y' lv' eI As σ (oM σ e')) (hlv : lv' < lv) (hok : MOK Y' n) (hsta : Cond.static Y'.1 ∈ Gw) (hli : Cond.methodLink Y.1.cls idx Y'.1 ∈ Gw) (hn : As.length = n) (hst : st0 = As.reverse ++ st) (hro : (st.map fun v => v.category).sum ≤ 8) (hdg : decode Y.2.1 pc = .ok (.invokestatic idx, 3))
    (k : ∀ (v : Int32), AW X Y lv emb ls (pc + 3) (.int v :: st) σ ((K v).bind G)) : AW X Y lv emb ls pc st0 σ ((e'.bind K).bind G) := by
  refine aw_eq (E' := (oM σ e').bind (fun q => (K q.1).bind G)) (by cases e' <;> rfl) ?_
  refine aw_callS0 (K := fun v _ => (K v).bind G) hM hlv hok hsta hli hn hst hro hdg (fun v s1 h => ?_)
  cases e' with
  | none => cases h
  | some z => cases h; exact k v
theorem aw_callST_I {As : List Value} {v : Int32} (hM : AMF X Y' lv' eI As σ (some (v, σ))) (hlv : lv' < lv) (hok : MOK Y' n) (hsta : Cond.static Y'.1 ∈ Gw) (hli : Cond.methodLink Y.1.cls idx Y'.1 ∈ Gw) (hn : As.length = n) (hst : st0 = As.reverse ++ st) (hro : (st.map fun v => v.category).sum ≤ 8) (hdg : decode Y.2.1 pc = .ok (.invokestatic idx, 3))
    (k : AW X Y lv emb ls (pc + 3) (.int v :: st) σ E) : AW X Y lv emb ls pc st0 σ E :=
  aw_callS0 (K := fun _ _ => E) hM hlv hok hsta hli hn hst hro hdg (fun v s1 h => by cases h; exact k)
theorem aw_callSW_L {As : List Value} {E' : Option (Int64 × Mem)} {K : Int64 → Mem → Option γ} (hM : AMF X Y' lv' eL As σ E') (hlv : lv' < lv) (hok : MOK Y' n) (hsta : Cond.static Y'.1 ∈ Gw) (hli : Cond.methodLink Y.1.cls idx Y'.1 ∈ Gw) (hn : As.length = n) (hst : st0 = As.reverse ++ st) (hro : (st.map fun v => v.category).sum ≤ 8) (hdg : decode Y.2.1 pc = .ok (.invokestatic idx, 3))
    (k : ∀ (v : Int64) (s1 : Mem), AW X Y lv emb ls (pc + 3) (.long v :: st) s1 ((K v s1).bind G)) : AW X Y lv emb ls pc st0 σ ((bd E' K).bind G) := by
  refine aw_eq (E' := E'.bind (fun q => (K q.1 q.2).bind G)) (by cases E' <;> rfl) ?_
  exact aw_callS0 (K := fun v s1 => (K v s1).bind G) hM hlv hok hsta hli hn hst hro hdg (fun v s1 _ => k v s1)
theorem aw_callSO_L {As : List Value} {e' : Option Int64} {K : Int64 → Option γ} (hM : AMF X Y' lv' eL As σ (oM σ e')) (hlv : lv' < lv) (hok : MOK Y' n) (hsta : Cond.static Y'.1 ∈ Gw) (hli : Cond.methodLink Y.1.cls idx Y'.1 ∈ Gw) (hn : As.length = n) (hst : st0 = As.reverse ++ st) (hro : (st.map fun v => v.category).sum ≤ 8) (hdg : decode Y.2.1 pc = .ok (.invokestatic idx, 3))
    (k : ∀ (v : Int64), AW X Y lv emb ls (pc + 3) (.long v :: st) σ ((K v).bind G)) : AW X Y lv emb ls pc st0 σ ((e'.bind K).bind G) := by
  refine aw_eq (E' := (oM σ e').bind (fun q => (K q.1).bind G)) (by cases e' <;> rfl) ?_
  refine aw_callS0 (K := fun v _ => (K v).bind G) hM hlv hok hsta hli hn hst hro hdg (fun v s1 h => ?_)
  cases e' with
  | none => cases h
  | some z => cases h; exact k v
theorem aw_callST_L {As : List Value} {v : Int64} (hM : AMF X Y' lv' eL As σ (some (v, σ))) (hlv : lv' < lv) (hok : MOK Y' n) (hsta : Cond.static Y'.1 ∈ Gw) (hli : Cond.methodLink Y.1.cls idx Y'.1 ∈ Gw) (hn : As.length = n) (hst : st0 = As.reverse ++ st) (hro : (st.map fun v => v.category).sum ≤ 8) (hdg : decode Y.2.1 pc = .ok (.invokestatic idx, 3))
    (k : AW X Y lv emb ls (pc + 3) (.long v :: st) σ E) : AW X Y lv emb ls pc st0 σ E :=
  aw_callS0 (K := fun _ _ => E) hM hlv hok hsta hli hn hst hro hdg (fun v s1 h => by cases h; exact k)
theorem aw_callSW_B {As : List Value} {E' : Option (Bool × Mem)} {K : Bool → Mem → Option γ} (hM : AMF X Y' lv' eB As σ E') (hlv : lv' < lv) (hok : MOK Y' n) (hsta : Cond.static Y'.1 ∈ Gw) (hli : Cond.methodLink Y.1.cls idx Y'.1 ∈ Gw) (hn : As.length = n) (hst : st0 = As.reverse ++ st) (hro : (st.map fun v => v.category).sum ≤ 8) (hdg : decode Y.2.1 pc = .ok (.invokestatic idx, 3))
    (k : ∀ (v : Bool) (s1 : Mem), AW X Y lv emb ls (pc + 3) (.int (b2i v) :: st) s1 ((K v s1).bind G)) : AW X Y lv emb ls pc st0 σ ((bd E' K).bind G) := by
  refine aw_eq (E' := E'.bind (fun q => (K q.1 q.2).bind G)) (by cases E' <;> rfl) ?_
  exact aw_callS0 (K := fun v s1 => (K v s1).bind G) hM hlv hok hsta hli hn hst hro hdg (fun v s1 _ => k v s1)
theorem aw_callSO_B {As : List Value} {e' : Option Bool} {K : Bool → Option γ} (hM : AMF X Y' lv' eB As σ (oM σ e')) (hlv : lv' < lv) (hok : MOK Y' n) (hsta : Cond.static Y'.1 ∈ Gw) (hli : Cond.methodLink Y.1.cls idx Y'.1 ∈ Gw) (hn : As.length = n) (hst : st0 = As.reverse ++ st) (hro : (st.map fun v => v.category).sum ≤ 8) (hdg : decode Y.2.1 pc = .ok (.invokestatic idx, 3))
    (k : ∀ (v : Bool), AW X Y lv emb ls (pc + 3) (.int (b2i v) :: st) σ ((K v).bind G)) : AW X Y lv emb ls pc st0 σ ((e'.bind K).bind G) := by
  refine aw_eq (E' := (oM σ e').bind (fun q => (K q.1).bind G)) (by cases e' <;> rfl) ?_
  refine aw_callS0 (K := fun v _ => (K v).bind G) hM hlv hok hsta hli hn hst hro hdg (fun v s1 h => ?_)
  cases e' with
  | none => cases h
  | some z => cases h; exact k v
theorem aw_callST_B {As : List Value} {v : Bool} (hM : AMF X Y' lv' eB As σ (some (v, σ))) (hlv : lv' < lv) (hok : MOK Y' n) (hsta : Cond.static Y'.1 ∈ Gw) (hli : Cond.methodLink Y.1.cls idx Y'.1 ∈ Gw) (hn : As.length = n) (hst : st0 = As.reverse ++ st) (hro : (st.map fun v => v.category).sum ≤ 8) (hdg : decode Y.2.1 pc = .ok (.invokestatic idx, 3))
    (k : AW X Y lv emb ls (pc + 3) (.int (b2i v) :: st) σ E) : AW X Y lv emb ls pc st0 σ E :=
  aw_callS0 (K := fun _ _ => E) hM hlv hok hsta hli hn hst hro hdg (fun v s1 h => by cases h; exact k)
theorem aw_callNW_U {host : String} {As : List Value} {E' : Option (Unit × Mem)} {K : Unit → Mem → Option γ} (hM : AMF X Y' lv' eU As σ E') (hlv : lv' < lv) (hok : MOK Y' n) (hsta : Cond.static Y'.1 ∈ Gw) (hli : (Y.1.cls, idx, Y'.1, host) ∈ nestW) (hn : As.length = n) (hst : st0 = As.reverse ++ st) (hro : (st.map fun v => v.category).sum ≤ 8) (hdg : decode Y.2.1 pc = .ok (.invokestatic idx, 3))
    (k : ∀ (_v : Unit) (s1 : Mem), AW X Y lv emb ls (pc + 3) st s1 ((K _v s1).bind G)) : AW X Y lv emb ls pc st0 σ ((bd E' K).bind G) := by
  refine aw_eq (E' := E'.bind (fun q => (K q.1 q.2).bind G)) (by cases E' <;> rfl) ?_
  exact aw_callSN0 (K := fun v s1 => (K v s1).bind G) hM hlv hok hsta hli hn hst hro hdg (fun v s1 _ => k v s1)
theorem aw_callNW_I {host : String} {As : List Value} {E' : Option (Int32 × Mem)} {K : Int32 → Mem → Option γ} (hM : AMF X Y' lv' eI As σ E') (hlv : lv' < lv) (hok : MOK Y' n) (hsta : Cond.static Y'.1 ∈ Gw) (hli : (Y.1.cls, idx, Y'.1, host) ∈ nestW) (hn : As.length = n) (hst : st0 = As.reverse ++ st) (hro : (st.map fun v => v.category).sum ≤ 8) (hdg : decode Y.2.1 pc = .ok (.invokestatic idx, 3))
    (k : ∀ (v : Int32) (s1 : Mem), AW X Y lv emb ls (pc + 3) (.int v :: st) s1 ((K v s1).bind G)) : AW X Y lv emb ls pc st0 σ ((bd E' K).bind G) := by
  refine aw_eq (E' := E'.bind (fun q => (K q.1 q.2).bind G)) (by cases E' <;> rfl) ?_
  exact aw_callSN0 (K := fun v s1 => (K v s1).bind G) hM hlv hok hsta hli hn hst hro hdg (fun v s1 _ => k v s1)
theorem aw_callNO_I {host : String} {As : List Value} {e' : Option Int32} {K : Int32 → Option γ} (hM : AMF X Y' lv' eI As σ (oM σ e')) (hlv : lv' < lv) (hok : MOK Y' n) (hsta : Cond.static Y'.1 ∈ Gw) (hli : (Y.1.cls, idx, Y'.1, host) ∈ nestW) (hn : As.length = n) (hst : st0 = As.reverse ++ st) (hro : (st.map fun v => v.category).sum ≤ 8) (hdg : decode Y.2.1 pc = .ok (.invokestatic idx, 3))
    (k : ∀ (v : Int32), AW X Y lv emb ls (pc + 3) (.int v :: st) σ ((K v).bind G)) : AW X Y lv emb ls pc st0 σ ((e'.bind K).bind G) := by
  refine aw_eq (E' := (oM σ e').bind (fun q => (K q.1).bind G)) (by cases e' <;> rfl) ?_
  refine aw_callSN0 (K := fun v _ => (K v).bind G) hM hlv hok hsta hli hn hst hro hdg (fun v s1 h => ?_)
  cases e' with
  | none => cases h
  | some z => cases h; exact k v
theorem aw_callNT_I {host : String} {As : List Value} {v : Int32} (hM : AMF X Y' lv' eI As σ (some (v, σ))) (hlv : lv' < lv) (hok : MOK Y' n) (hsta : Cond.static Y'.1 ∈ Gw) (hli : (Y.1.cls, idx, Y'.1, host) ∈ nestW) (hn : As.length = n) (hst : st0 = As.reverse ++ st) (hro : (st.map fun v => v.category).sum ≤ 8) (hdg : decode Y.2.1 pc = .ok (.invokestatic idx, 3))
    (k : AW X Y lv emb ls (pc + 3) (.int v :: st) σ E) : AW X Y lv emb ls pc st0 σ E :=
  aw_callSN0 (K := fun _ _ => E) hM hlv hok hsta hli hn hst hro hdg (fun v s1 h => by cases h; exact k)
theorem aw_callNW_L {host : String} {As : List Value} {E' : Option (Int64 × Mem)} {K : Int64 → Mem → Option γ} (hM : AMF X Y' lv' eL As σ E') (hlv : lv' < lv) (hok : MOK Y' n) (hsta : Cond.static Y'.1 ∈ Gw) (hli : (Y.1.cls, idx, Y'.1, host) ∈ nestW) (hn : As.length = n) (hst : st0 = As.reverse ++ st) (hro : (st.map fun v => v.category).sum ≤ 8) (hdg : decode Y.2.1 pc = .ok (.invokestatic idx, 3))
    (k : ∀ (v : Int64) (s1 : Mem), AW X Y lv emb ls (pc + 3) (.long v :: st) s1 ((K v s1).bind G)) : AW X Y lv emb ls pc st0 σ ((bd E' K).bind G) := by
  refine aw_eq (E' := E'.bind (fun q => (K q.1 q.2).bind G)) (by cases E' <;> rfl) ?_
  exact aw_callSN0 (K := fun v s1 => (K v s1).bind G) hM hlv hok hsta hli hn hst hro hdg (fun v s1 _ => k v s1)
theorem aw_callNO_L {host : String} {As : List Value} {e' : Option Int64} {K : Int64 → Option γ} (hM : AMF X Y' lv' eL As σ (oM σ e')) (hlv : lv' < lv) (hok : MOK Y' n) (hsta : Cond.static Y'.1 ∈ Gw) (hli : (Y.1.cls, idx, Y'.1, host) ∈ nestW) (hn : As.length = n) (hst : st0 = As.reverse ++ st) (hro : (st.map fun v => v.category).sum ≤ 8) (hdg : decode Y.2.1 pc = .ok (.invokestatic idx, 3))
    (k : ∀ (v : Int64), AW X Y lv emb ls (pc + 3) (.long v :: st) σ ((K v).bind G)) : AW X Y lv emb ls pc st0 σ ((e'.bind K).bind G) := by
  refine aw_eq (E' := (oM σ e').bind (fun q => (K q.1).bind G)) (by cases e' <;> rfl) ?_
  refine aw_callSN0 (K := fun v _ => (K v).bind G) hM hlv hok hsta hli hn hst hro hdg (fun v s1 h => ?_)
  cases e' with
  | none => cases h
  | some z => cases h; exact k v
theorem aw_callNT_L {host : String} {As : List Value} {v : Int64} (hM : AMF X Y' lv' eL As σ (some (v, σ))) (hlv : lv' < lv) (hok : MOK Y' n) (hsta : Cond.static Y'.1 ∈ Gw) (hli : (Y.1.cls, idx, Y'.1, host) ∈ nestW) (hn : As.length = n) (hst : st0 = As.reverse ++ st) (hro : (st.map fun v => v.category).sum ≤ 8) (hdg : decode Y.2.1 pc = .ok (.invokestatic idx, 3))
    (k : AW X Y lv emb ls (pc + 3) (.long v :: st) σ E) : AW X Y lv emb ls pc st0 σ E :=
  aw_callSN0 (K := fun _ _ => E) hM hlv hok hsta hli hn hst hro hdg (fun v s1 h => by cases h; exact k)
theorem aw_callNW_B {host : String} {As : List Value} {E' : Option (Bool × Mem)} {K : Bool → Mem → Option γ} (hM : AMF X Y' lv' eB As σ E') (hlv : lv' < lv) (hok : MOK Y' n) (hsta : Cond.static Y'.1 ∈ Gw) (hli : (Y.1.cls, idx, Y'.1, host) ∈ nestW) (hn : As.length = n) (hst : st0 = As.reverse ++ st) (hro : (st.map fun v => v.category).sum ≤ 8) (hdg : decode Y.2.1 pc = .ok (.invokestatic idx, 3))
    (k : ∀ (v : Bool) (s1 : Mem), AW X Y lv emb ls (pc + 3) (.int (b2i v) :: st) s1 ((K v s1).bind G)) : AW X Y lv emb ls pc st0 σ ((bd E' K).bind G) := by
  refine aw_eq (E' := E'.bind (fun q => (K q.1 q.2).bind G)) (by cases E' <;> rfl) ?_
  exact aw_callSN0 (K := fun v s1 => (K v s1).bind G) hM hlv hok hsta hli hn hst hro hdg (fun v s1 _ => k v s1)
theorem aw_callNO_B {host : String} {As : List Value} {e' : Option Bool} {K : Bool → Option γ} (hM : AMF X Y' lv' eB As σ (oM σ e')) (hlv : lv' < lv) (hok : MOK Y' n) (hsta : Cond.static Y'.1 ∈ Gw) (hli : (Y.1.cls, idx, Y'.1, host) ∈ nestW) (hn : As.length = n) (hst : st0 = As.reverse ++ st) (hro : (st.map fun v => v.category).sum ≤ 8) (hdg : decode Y.2.1 pc = .ok (.invokestatic idx, 3))
    (k : ∀ (v : Bool), AW X Y lv emb ls (pc + 3) (.int (b2i v) :: st) σ ((K v).bind G)) : AW X Y lv emb ls pc st0 σ ((e'.bind K).bind G) := by
  refine aw_eq (E' := (oM σ e').bind (fun q => (K q.1).bind G)) (by cases e' <;> rfl) ?_
  refine aw_callSN0 (K := fun v _ => (K v).bind G) hM hlv hok hsta hli hn hst hro hdg (fun v s1 h => ?_)
  cases e' with
  | none => cases h
  | some z => cases h; exact k v
theorem aw_callNT_B {host : String} {As : List Value} {v : Bool} (hM : AMF X Y' lv' eB As σ (some (v, σ))) (hlv : lv' < lv) (hok : MOK Y' n) (hsta : Cond.static Y'.1 ∈ Gw) (hli : (Y.1.cls, idx, Y'.1, host) ∈ nestW) (hn : As.length = n) (hst : st0 = As.reverse ++ st) (hro : (st.map fun v => v.category).sum ≤ 8) (hdg : decode Y.2.1 pc = .ok (.invokestatic idx, 3))
    (k : AW X Y lv emb ls (pc + 3) (.int (b2i v) :: st) σ E) : AW X Y lv emb ls pc st0 σ E :=
  aw_callSN0 (K := fun _ _ => E) hM hlv hok hsta hli hn hst hro hdg (fun v s1 h => by cases h; exact k)
def iMin (x y : Int32) : Int32 := if y < x then y else x
def iMax (x y : Int32) : Int32 := if x < y then y else x
def iAbs (x : Int32) : Int32 := if 0 ≤ x then x else 0 - x
def lAbs (x : Int64) : Int64 := if 0 < x then x else -x
theorem aw_min {x y : Int32} (hli : Cond.methodLink Y.1.cls idx Lib.Math.min.name ∈ Gw) (hst : Cond.static Lib.Math.min.name ∈ Gw) (hini : Cond.initialized "java/lang/Math" ∈ Gw) (hco : Cond.code Lib.Math.min.name Lib.Math.min.code 2 (some .int) ∈ Gw) (hro : (st.map fun v => v.category).sum ≤ 8) (hdg : decode Y.2.1 pc = .ok (.invokestatic idx, 3)) (k : AW X Y lv emb ls (pc + 3) (.int (iMin x y) :: st) σ E) : AW X Y lv emb ls pc (.int y :: .int x :: st) σ E :=
  fun r σ1 hE p e s m args below meth c H locs A L hc hL hP hD hS hA => va_mmin hc.1 hc.2.1 (hc.2.2.1.trans hL.1.symm) hc.2.2.2.1 (hc.2.2.2.2.1 _ hli) (hc.2.2.2.2.1 _ hst) (hc.2.2.2.2.1 _ hini) (hc.2.2.2.2.1 _ hco) (by simp [rmL]) (by simp only [rmL]; omega) (Nat.zero_le _) (Nat.zero_le _) hdg (k r σ1 hE p e s m args below meth c H locs A L hc hL hP hD hS hA)
theorem aw_max {x y : Int32} (hli : Cond.methodLink Y.1.cls idx Lib.Math.max.name ∈ Gw) (hst : Cond.static Lib.Math.max.name ∈ Gw) (hini : Cond.initialized "java/lang/Math" ∈ Gw) (hco : Cond.code Lib.Math.max.name Lib.Math.max.code 2 (some .int) ∈ Gw) (hro : (st.map fun v => v.category).sum ≤ 8) (hdg : decode Y.2.1 pc = .ok (.invokestatic idx, 3)) (k : AW X Y lv emb ls (pc + 3) (.int (iMax x y) :: st) σ E) : AW X Y lv emb ls pc (.int y :: .int x :: st) σ E :=
  fun r σ1 hE p e s m args below meth c H locs A L hc hL hP hD hS hA => va_mmax hc.1 hc.2.1 (hc.2.2.1.trans hL.1.symm) hc.2.2.2.1 (hc.2.2.2.2.1 _ hli) (hc.2.2.2.2.1 _ hst) (hc.2.2.2.2.1 _ hini) (hc.2.2.2.2.1 _ hco) (by simp [rmL]) (by simp only [rmL]; omega) (Nat.zero_le _) (Nat.zero_le _) hdg (k r σ1 hE p e s m args below meth c H locs A L hc hL hP hD hS hA)
theorem aw_abs {x : Int32} (hli : Cond.methodLink Y.1.cls idx Lib.Math.abs.name ∈ Gw) (hst : Cond.static Lib.Math.abs.name ∈ Gw) (hini : Cond.initialized "java/lang/Math" ∈ Gw) (hco : Cond.code Lib.Math.abs.name Lib.Math.abs.code 1 (some .int) ∈ Gw) (hro : (st.map fun v => v.category).sum ≤ 8) (hdg : decode Y.2.1 pc = .ok (.invokestatic idx, 3)) (k : AW X Y lv emb ls (pc + 3) (.int (iAbs x) :: st) σ E) : AW X Y lv emb ls pc (.int x :: st) σ E :=
  fun r σ1 hE p e s m args below meth c H locs A L hc hL hP hD hS hA => va_mabs hc.1 hc.2.1 (hc.2.2.1.trans hL.1.symm) hc.2.2.2.1 (hc.2.2.2.2.1 _ hli) (hc.2.2.2.2.1 _ hst) (hc.2.2.2.2.1 _ hini) (hc.2.2.2.2.1 _ hco) (by simp [rmL]) (by simp only [rmL]; omega) (Nat.zero_le _) (Nat.zero_le _) hdg (k r σ1 hE p e s m args below meth c H locs A L hc hL hP hD hS hA)
theorem aw_labs {x : Int64} (hli : Cond.methodLink Y.1.cls idx Lib.MathLoose.abs_long.x ∈ Gw) (hst : Cond.static Lib.MathLoose.abs_long.x ∈ Gw) (hini : Cond.initialized "java/lang/Math" ∈ Gw) (hco : Cond.code Lib.MathLoose.abs_long.x Lib.MathLoose.abs_long.code 2 (some .long) ∈ Gw) (hro : (st.map fun v => v.category).sum ≤ 8) (hdg : decode Y.2.1 pc = .ok (.invokestatic idx, 3)) (k : AW X Y lv emb ls (pc + 3) (.long (lAbs x) :: st) σ E) : AW X Y lv emb ls pc (.long x :: st) σ E :=
  fun r σ1 hE p e s m args below meth c H locs A L hc hL hP hD hS hA => va_mabs_long hc.1 hc.2.1 (hc.2.2.1.trans hL.1.symm) hc.2.2.2.1 (hc.2.2.2.2.1 _ hli) (hc.2.2.2.2.1 _ hst) (hc.2.2.2.2.1 _ hini) (hc.2.2.2.2.1 _ hco) (by simp [rmL]) (by simp only [rmL]; omega) (Nat.zero_le _) (Nat.zero_le _) hdg (k r σ1 hE p e s m args below meth c H locs A L hc hL hP hD hS hA)
def chkC {γ : Type} (n0 n1 : Nat) (sp dp n : Int32) (e : Option γ) : Option γ := if sp < 0 ∨ dp < 0 ∨ n < 0 ∨ n0 < sp.toNatClampNeg + n.toNatClampNeg ∨ n1 < dp.toNatClampNeg + n.toNatClampNeg then none else e
theorem aw_copyI {a b c a' b' c' n0 n1 : Nat} {sp dp n : Int32} (h0 : IsI X a b c n0 .int) (h1 : IsI X a' b' c' n1 .int) (hli : Cond.methodLink Y.1.cls idx arraycopyName ∈ Gw) (hna : Cond.native arraycopyName ∈ Gw) (hst : Cond.static arraycopyName ∈ Gw) (hini : Cond.initialized "java/lang/System" ∈ Gw) (hro : (st.map fun v => v.category).sum ≤ 8) (hdg : decode Y.2.1 pc = .ok (.invokestatic idx, 3))
    (k : AW X Y lv emb ls (pc + 3) st (sIf σ a' b' c' (va_cpy (gI σ a b c) (gI σ a' b' c') sp.toNatClampNeg dp.toNatClampNeg n.toNatClampNeg)) (e'.bind G)) : AW X Y lv emb ls pc (.int n :: .int dp :: .ref (X.2.2.2.2.1 a' b' c') :: .int sp :: .ref (X.2.2.2.2.1 a b c) :: st) σ ((chkC n0 n1 sp dp n e').bind G) :=
  fun r σ1 hE p e s m args below meth cc H locs A L hc hL hP hD hS hA => by
    obtain ⟨hk, cA, hty, hsh⟩ := h0
    obtain ⟨hk', cA', hty', hsh'⟩ := h1
    obtain ⟨q0, hq0, hq⟩ := wd_at (σ := σ) hk.1
    obtain ⟨q1, hq1, hq'⟩ := wd_at (σ := σ) hk'.1
    obtain ⟨t0, ht0⟩ := List.mem_iff_getElem?.mp hty
    obtain ⟨t1, ht1⟩ := List.mem_iff_getElem?.mp hty'
    rw [hsh] at hq
    rw [hsh'] at hq'
    by_cases hin : sp < 0 ∨ dp < 0 ∨ n < 0 ∨ n0 < sp.toNatClampNeg + n.toNatClampNeg ∨ n1 < dp.toNatClampNeg + n.toNatClampNeg
    · rw [chkC, if_pos hin] at hE; cases hE
    · rw [chkC, if_neg hin] at hE
      have hi1 : ¬ sp < 0 := fun z => hin (Or.inl z)
      have hi2 : ¬ dp < 0 := fun z => hin (Or.inr (Or.inl z))
      have hi3 : ¬ n < 0 := fun z => hin (Or.inr (Or.inr (Or.inl z)))
      have hi4 : sp.toNatClampNeg + n.toNatClampNeg ≤ n0 := Nat.le_of_not_lt fun z => hin (Or.inr (Or.inr (Or.inr (Or.inl z))))
      have hi5 : dp.toNatClampNeg + n.toNatClampNeg ≤ n1 := Nat.le_of_not_lt fun z => hin (Or.inr (Or.inr (Or.inr (Or.inr z))))
      have h9 : nativeFrameWords "java/lang/System" "arraycopy" 5 + 11 ≤ 100 := by decide +kernel
      have hfr : 1 ≤ (rmL lv).frames := by simp only [rmL]; omega
      have hlo : (st.map fun v => v.category).sum + (nativeFrameWords "java/lang/System" "arraycopy" 5 + 11) ≤ (rmL lv).locals := by simp only [rmL]; omega
      refine va_copyi hc.1 hc.2.1 (hc.2.2.1.trans hL.1.symm) hc.2.2.2.1 (hc.2.2.2.2.1 _ hli) (hc.2.2.2.2.1 _ hna) (hc.2.2.2.2.1 _ hst) (hc.2.2.2.2.1 _ hini) hc.2.2.2.2.2.1 hP hD hS q0 q1 t0 t1 hq hq' ht0 ht1 rfl hi1 hi2 hi3 hi4 hi5 (fun _ _ => rfl) hfr hlo hdg (fun H1 locs1 hP1 hD1 hS1 => ?_)
      rw [wd_I hk'.2 hq1 (hsh' _ _ _ _)] at hP1 hD1
      exact k r σ1 hE p e s m args below meth cc H1 locs1 A L hc hL hP1 hD1 hS1 hA
theorem aw_copyL {a b c a' b' c' n0 n1 : Nat} {sp dp n : Int32} (h0 : IsL X a b c n0) (h1 : IsL X a' b' c' n1) (hli : Cond.methodLink Y.1.cls idx arraycopyName ∈ Gw) (hna : Cond.native arraycopyName ∈ Gw) (hst : Cond.static arraycopyName ∈ Gw) (hini : Cond.initialized "java/lang/System" ∈ Gw) (hro : (st.map fun v => v.category).sum ≤ 8) (hdg : decode Y.2.1 pc = .ok (.invokestatic idx, 3))
    (k : AW X Y lv emb ls (pc + 3) st (sLf σ a' b' c' (va_cpy (gL σ a b c) (gL σ a' b' c') sp.toNatClampNeg dp.toNatClampNeg n.toNatClampNeg)) (e'.bind G)) : AW X Y lv emb ls pc (.int n :: .int dp :: .ref (X.2.2.2.2.1 a' b' c') :: .int sp :: .ref (X.2.2.2.2.1 a b c) :: st) σ ((chkC n0 n1 sp dp n e').bind G) :=
  fun r σ1 hE p e s m args below meth cc H locs A L hc hL hP hD hS hA => by
    obtain ⟨hk, cA, hty, hsh⟩ := h0
    obtain ⟨hk', cA', hty', hsh'⟩ := h1
    obtain ⟨q0, hq0, hq⟩ := wd_at (σ := σ) hk.1
    obtain ⟨q1, hq1, hq'⟩ := wd_at (σ := σ) hk'.1
    obtain ⟨t0, ht0⟩ := List.mem_iff_getElem?.mp hty
    obtain ⟨t1, ht1⟩ := List.mem_iff_getElem?.mp hty'
    rw [hsh] at hq
    rw [hsh'] at hq'
    by_cases hin : sp < 0 ∨ dp < 0 ∨ n < 0 ∨ n0 < sp.toNatClampNeg + n.toNatClampNeg ∨ n1 < dp.toNatClampNeg + n.toNatClampNeg
    · rw [chkC, if_pos hin] at hE; cases hE
    · rw [chkC, if_neg hin] at hE
      have hi1 : ¬ sp < 0 := fun z => hin (Or.inl z)
      have hi2 : ¬ dp < 0 := fun z => hin (Or.inr (Or.inl z))
      have hi3 : ¬ n < 0 := fun z => hin (Or.inr (Or.inr (Or.inl z)))
      have hi4 : sp.toNatClampNeg + n.toNatClampNeg ≤ n0 := Nat.le_of_not_lt fun z => hin (Or.inr (Or.inr (Or.inr (Or.inl z))))
      have hi5 : dp.toNatClampNeg + n.toNatClampNeg ≤ n1 := Nat.le_of_not_lt fun z => hin (Or.inr (Or.inr (Or.inr (Or.inr z))))
      have h9 : nativeFrameWords "java/lang/System" "arraycopy" 5 + 11 ≤ 100 := by decide +kernel
      have hfr : 1 ≤ (rmL lv).frames := by simp only [rmL]; omega
      have hlo : (st.map fun v => v.category).sum + (nativeFrameWords "java/lang/System" "arraycopy" 5 + 11) ≤ (rmL lv).locals := by simp only [rmL]; omega
      refine va_copyl hc.1 hc.2.1 (hc.2.2.1.trans hL.1.symm) hc.2.2.2.1 (hc.2.2.2.2.1 _ hli) (hc.2.2.2.2.1 _ hna) (hc.2.2.2.2.1 _ hst) (hc.2.2.2.2.1 _ hini) hc.2.2.2.2.2.1 hP hD hS q0 q1 t0 t1 hq hq' ht0 ht1 rfl hi1 hi2 hi3 hi4 hi5 (fun _ _ => rfl) hfr hlo hdg (fun H1 locs1 hP1 hD1 hS1 => ?_)
      rw [wd_L hk'.2 hq1 (hsh' _ _ _ _)] at hP1 hD1
      exact k r σ1 hE p e s m args below meth cc H1 locs1 A L hc hL hP1 hD1 hS1 hA
theorem aw_entryT {f : α} {s0 : Mem} (k : AW X Y lv emb ls pc st σ ((some f).bind (fun v => some (v, s0)))) : AW X Y lv emb ls pc st σ (some (f, s0)) := k
theorem aw_entryO {f : Option α} {s0 : Mem} (k : AW X Y lv emb ls pc st σ (f.bind (fun v => some (v, s0)))) : AW X Y lv emb ls pc st σ (oM s0 f) := k
theorem aw_assoc {β : Type} {x : Option β} {K : β → Option γ} (k : AW X Y lv emb ls pc st σ (x.bind (fun v => (K v).bind G))) : AW X Y lv emb ls pc st σ ((x.bind K).bind G) := aw_eq (by cases x <;> rfl) k
theorem aw_assocW {β : Type} {x : Option (β × Mem)} {K : β → Mem → Option γ} (k : AW X Y lv emb ls pc st σ (bd x (fun v s => (K v s).bind G))) : AW X Y lv emb ls pc st σ ((bd x K).bind G) := aw_eq (by cases x <;> rfl) k
theorem aw_bdB {β : Type} {x : Option (β × Mem)} {K : β → Mem → Option (α × Mem)} (k : AW X Y lv emb ls pc st σ (x.bind (fun q => K q.1 q.2))) : AW X Y lv emb ls pc st σ (bd x K) := k
theorem aw_ldcw {i : Nat} {v : Int32} (hw : Cond.constant Y.1.cls i v ∈ Gw) (hdg : decode Y.2.1 pc = .ok (.ldc_w i, 3)) (k : AW X Y lv emb ls (pc + 3) (.int v :: st) σ E) : AW X Y lv emb ls pc st σ E :=
  fun r σ1 hE p e s m args below meth c H locs A L hc hL hP hD hS hA => lv_ldcw hc.1 hc.2.1 hc.2.2.2.1 (hc.2.2.2.2.1 _ hw) hdg (k r σ1 hE p e s m args below meth c H locs A L hc hL hP hD hS hA)
end AWC5
/-- how often a loop may go round: far above what any needs -/
def fuelK : Nat := 2000000
