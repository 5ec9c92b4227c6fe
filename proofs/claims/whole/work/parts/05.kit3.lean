/-! the abstract walk: fields, arrays, calls, the library's few methods -/
/-- a place of an array is read; outside it there is nothing -/
def ald {β : Type} (n : Nat) (f : Nat → β) (i : Int32) : Option β := if i < 0 ∨ n ≤ i.toNatClampNeg then none else some (f i.toNatClampNeg)
def chk {γ : Type} (n : Nat) (i : Int32) (e : Option γ) : Option γ := if i < 0 ∨ n ≤ i.toNatClampNeg then none else e
def CI (ci : Nat) (C : String) (T : u_T) (N : Nat) (ty : Nat → FieldType) : Prop := vwCl[ci]? = some (C, T, N) ∧ (∀ w ∈ u_ws C T N, w ∈ Gw) ∧ (∀ k, k < N → parseFieldDescriptor (T k).2.2.1 = some (ty k)) ∧ (∀ a, a < N → ∀ b, b < N → a ≠ b → (T a).2.1 ≠ (T b).2.1)
def Kin (X : Ctx) (a b c : Nat) : Prop := (a, b, c) ∈ X.2.2.2.1 ∧ X.2.2.2.1.Nodup
def IsI (X : Ctx) (a b c n : Nat) (ty : FieldType) : Prop := Kin X a b c ∧ ∃ cA : ClassId, (cA, ty) ∈ X.2.2.1 ∧ ∀ I L B R, X.2.2.2.2.2 a b c I L B R = .inl (cA, n, .inl I)
def IsL (X : Ctx) (a b c n : Nat) : Prop := Kin X a b c ∧ ∃ cA : ClassId, (cA, FieldType.long) ∈ X.2.2.1 ∧ ∀ I L B R, X.2.2.2.2.2 a b c I L B R = .inl (cA, n, .inr (.inl L))
def IsQ (X : Ctx) (a b c n : Nat) (C : String) (f : Nat → Nat) : Prop := Kin X a b c ∧ ∃ cA : ClassId, (cA, FieldType.object C) ∈ X.2.2.1 ∧ ∀ I L B R, X.2.2.2.2.2 a b c I L B R = .inl (cA, n, .inr (.inr (.inr (.inr (fun k => some (f k))))))
def IsO (X : Ctx) (a b ci : Nat) : Prop := Kin X a b 0 ∧ ∀ I L B R, ∃ fs : List Value, X.2.2.2.2.2 a b 0 I L B R = .inr (ci, fs)
def FdG (X : Ctx) (a b ci k : Nat) (val : (Nat → Int32) → (Nat → Int64) → (Nat → Bool) → (Nat → Nat) → Value) : Prop := Kin X a b 0 ∧ ∀ I L B R, ∃ fs : List Value, X.2.2.2.2.2 a b 0 I L B R = .inr (ci, fs) ∧ fs[k]? = some (val I L B R)
def FdI (X : Ctx) (a b ci k : Nat) : Prop := Kin X a b 0 ∧ ∀ I L B R (v : Int32), ∃ fs : List Value, X.2.2.2.2.2 a b 0 I L B R = .inr (ci, fs) ∧ k < fs.length ∧ X.2.2.2.2.2 a b 0 (upd I k v) L B R = .inr (ci, fs.set k (.int v))
def FdL (X : Ctx) (a b ci k : Nat) : Prop := Kin X a b 0 ∧ ∀ I L B R (v : Int64), ∃ fs : List Value, X.2.2.2.2.2 a b 0 I L B R = .inr (ci, fs) ∧ k < fs.length ∧ X.2.2.2.2.2 a b 0 I (vp_updL L k v) B R = .inr (ci, fs.set k (.long v))
def FdB (X : Ctx) (a b ci k : Nat) : Prop := Kin X a b 0 ∧ ∀ I L B R (v : Bool), ∃ fs : List Value, X.2.2.2.2.2 a b 0 I L B R = .inr (ci, fs) ∧ k < fs.length ∧ X.2.2.2.2.2 a b 0 I L (upB B k v) R = .inr (ci, fs.set k (.int (b2i v)))
def FdR (X : Ctx) (a b ci k d : Nat) : Prop := Kin X a b 0 ∧ ∀ I L B R (v : Nat), ∃ fs : List Value, X.2.2.2.2.2 a b 0 I L B R = .inr (ci, fs) ∧ k < fs.length ∧ X.2.2.2.2.2 a b 0 I L B (upR R k v) = .inr (ci, fs.set k (.ref (X.2.2.2.2.1 d v 0)))
section AWM
variable {X : Ctx} {Y : MD} {lv : Nat} {α : Type} {emb : α → Option Value} {ls : List (Nat × Value)} {pc : Nat} {st : List Value} {σ : Mem} {E : Option (α × Mem)} {a b c n : Nat} {γ : Type} {e' : Option γ} {G : γ → Option (α × Mem)}
theorem aw_iaload {i : Int32} {K : Int32 → Option γ} (h : IsI X a b c n .int) (hdg : decode Y.2.1 pc = .ok (.iaload, 1)) (k : ∀ v, AW X Y lv emb ls (pc + 1) (.int v :: st) σ ((K v).bind G)) : AW X Y lv emb ls pc (.int i :: .ref (X.2.2.2.2.1 a b c) :: st) σ (((ald n (gI σ a b c) i).bind K).bind G) :=
  fun r σ1 hE p e s m args below meth cc H locs A L hc hL hP hD hS hA => by
    obtain ⟨hk, cA, hty, hsh⟩ := h
    obtain ⟨q0, -, hq⟩ := wd_at (σ := σ) hk.1
    obtain ⟨t0, ht0⟩ := List.mem_iff_getElem?.mp hty
    rw [hsh] at hq
    by_cases hin : i < 0 ∨ n ≤ i.toNatClampNeg
    · simp [ald, hin] at hE
    · simp only [ald, hin, if_false, Option.bind_some] at hE
      exact va_iald hc.1 hc.2.1 hc.2.2.2.2.2.1 hP q0 t0 hq ht0 hin hdg (k _ r σ1 hE p e s m args below meth cc H locs A L hc hL hP hD hS hA)
theorem aw_baload {i : Int32} {K : Int32 → Option γ} (h : IsI X a b c n .byte) (hdg : decode Y.2.1 pc = .ok (.baload, 1)) (k : ∀ v, AW X Y lv emb ls (pc + 1) (.int v :: st) σ ((K v).bind G)) : AW X Y lv emb ls pc (.int i :: .ref (X.2.2.2.2.1 a b c) :: st) σ (((ald n (gI σ a b c) i).bind K).bind G) :=
  fun r σ1 hE p e s m args below meth cc H locs A L hc hL hP hD hS hA => by
    obtain ⟨hk, cA, hty, hsh⟩ := h
    obtain ⟨q0, -, hq⟩ := wd_at (σ := σ) hk.1
    obtain ⟨t0, ht0⟩ := List.mem_iff_getElem?.mp hty
    rw [hsh] at hq
    by_cases hin : i < 0 ∨ n ≤ i.toNatClampNeg
    · simp [ald, hin] at hE
    · simp only [ald, hin, if_false, Option.bind_some] at hE
      exact va_bald hc.1 hc.2.1 hc.2.2.2.2.2.1 hP q0 t0 hq ht0 hin hdg (k _ r σ1 hE p e s m args below meth cc H locs A L hc hL hP hD hS hA)
theorem aw_laload {i : Int32} {K : Int64 → Option γ} (h : IsL X a b c n) (hdg : decode Y.2.1 pc = .ok (.laload, 1)) (k : ∀ v, AW X Y lv emb ls (pc + 1) (.long v :: st) σ ((K v).bind G)) : AW X Y lv emb ls pc (.int i :: .ref (X.2.2.2.2.1 a b c) :: st) σ (((ald n (gL σ a b c) i).bind K).bind G) :=
  fun r σ1 hE p e s m args below meth cc H locs A L hc hL hP hD hS hA => by
    obtain ⟨hk, cA, hty, hsh⟩ := h
    obtain ⟨q0, -, hq⟩ := wd_at (σ := σ) hk.1
    obtain ⟨t0, ht0⟩ := List.mem_iff_getElem?.mp hty
    rw [hsh] at hq
    by_cases hin : i < 0 ∨ n ≤ i.toNatClampNeg
    · simp [ald, hin] at hE
    · simp only [ald, hin, if_false, Option.bind_some] at hE
      exact va_lald hc.1 hc.2.1 hc.2.2.2.2.2.1 hP q0 t0 hq ht0 hin hdg (k _ r σ1 hE p e s m args below meth cc H locs A L hc hL hP hD hS hA)
/-- a reference out of a row of references: the instance number j comes with j < n -/
theorem aw_aaload {i : Int32} {C : String} {f : Nat → Nat} {K : Nat → Option γ} (h : IsQ X a b c n C f) (hdg : decode Y.2.1 pc = .ok (.aaload, 1)) (k : ∀ j : Nat, j < n → AW X Y lv emb ls (pc + 1) (.ref (f j) :: st) σ ((K j).bind G)) : AW X Y lv emb ls pc (.int i :: .ref (X.2.2.2.2.1 a b c) :: st) σ (((ald n id i).bind K).bind G) :=
  fun r σ1 hE p e s m args below meth cc H locs A L hc hL hP hD hS hA => by
    obtain ⟨hk, cA, hty, hsh⟩ := h
    obtain ⟨q0, -, hq⟩ := wd_at (σ := σ) hk.1
    obtain ⟨t0, ht0⟩ := List.mem_iff_getElem?.mp hty
    rw [hsh] at hq
    by_cases hin : i < 0 ∨ n ≤ i.toNatClampNeg
    · simp [ald, hin] at hE
    · simp only [ald, hin, if_false, Option.bind_some, id] at hE
      exact va_aldq hc.1 hc.2.1 hc.2.2.2.2.2.1 hP q0 t0 hq ht0 hin hdg (k _ (by omega) r σ1 hE p e s m args below meth cc H locs A L hc hL hP hD hS hA)
theorem aw_iastore {i x : Int32} (h : IsI X a b c n .int) (hdg : decode Y.2.1 pc = .ok (.iastore, 1)) (k : AW X Y lv emb ls (pc + 1) st (sI σ a b c i.toNatClampNeg x) (e'.bind G)) : AW X Y lv emb ls pc (.int x :: .int i :: .ref (X.2.2.2.2.1 a b c) :: st) σ ((chk n i e').bind G) :=
  fun r σ1 hE p e s m args below meth cc H locs A L hc hL hP hD hS hA => by
    obtain ⟨hk, cA, hty, hsh⟩ := h
    obtain ⟨q0, hq0, hq⟩ := wd_at (σ := σ) hk.1
    obtain ⟨t0, ht0⟩ := List.mem_iff_getElem?.mp hty
    rw [hsh] at hq
    by_cases hin : i < 0 ∨ n ≤ i.toNatClampNeg
    · simp [chk, hin] at hE
    · simp only [chk, hin, if_false] at hE
      refine va_iast hc.1 hc.2.1 hc.2.2.2.2.2.1 hP hD hS q0 t0 hq ht0 hin hdg (fun H1 locs1 hP1 hD1 hS1 => ?_)
      rw [wd_I hk.2 hq0 (hsh _ _ _ _)] at hP1 hD1
      exact k r σ1 hE p e s m args below meth cc H1 locs1 A L hc hL hP1 hD1 hS1 hA
theorem aw_bastore {i x : Int32} (h : IsI X a b c n .byte) (hdg : decode Y.2.1 pc = .ok (.bastore, 1)) (k : AW X Y lv emb ls (pc + 1) st (sI σ a b c i.toNatClampNeg (vp_nar .byte x)) (e'.bind G)) : AW X Y lv emb ls pc (.int x :: .int i :: .ref (X.2.2.2.2.1 a b c) :: st) σ ((chk n i e').bind G) :=
  fun r σ1 hE p e s m args below meth cc H locs A L hc hL hP hD hS hA => by
    obtain ⟨hk, cA, hty, hsh⟩ := h
    obtain ⟨q0, hq0, hq⟩ := wd_at (σ := σ) hk.1
    obtain ⟨t0, ht0⟩ := List.mem_iff_getElem?.mp hty
    rw [hsh] at hq
    by_cases hin : i < 0 ∨ n ≤ i.toNatClampNeg
    · simp [chk, hin] at hE
    · simp only [chk, hin, if_false] at hE
      refine va_bast hc.1 hc.2.1 hc.2.2.2.2.2.1 hP hD hS q0 t0 hq ht0 hin hdg (fun H1 locs1 hP1 hD1 hS1 => ?_)
      rw [wd_I hk.2 hq0 (hsh _ _ _ _)] at hP1 hD1
      exact k r σ1 hE p e s m args below meth cc H1 locs1 A L hc hL hP1 hD1 hS1 hA
theorem aw_lastore {i : Int32} {x : Int64} (h : IsL X a b c n) (hdg : decode Y.2.1 pc = .ok (.lastore, 1)) (k : AW X Y lv emb ls (pc + 1) st (sL σ a b c i.toNatClampNeg x) (e'.bind G)) : AW X Y lv emb ls pc (.long x :: .int i :: .ref (X.2.2.2.2.1 a b c) :: st) σ ((chk n i e').bind G) :=
  fun r σ1 hE p e s m args below meth cc H locs A L hc hL hP hD hS hA => by
    obtain ⟨hk, cA, hty, hsh⟩ := h
    obtain ⟨q0, hq0, hq⟩ := wd_at (σ := σ) hk.1
    obtain ⟨t0, ht0⟩ := List.mem_iff_getElem?.mp hty
    rw [hsh] at hq
    by_cases hin : i < 0 ∨ n ≤ i.toNatClampNeg
    · simp [chk, hin] at hE
    · simp only [chk, hin, if_false] at hE
      refine va_last hc.1 hc.2.1 hc.2.2.2.2.2.1 hP hD hS q0 t0 hq ht0 hin hdg (fun H1 locs1 hP1 hD1 hS1 => ?_)
      rw [wd_L hk.2 hq0 (hsh _ _ _ _)] at hP1 hD1
      exact k r σ1 hE p e s m args below meth cc H1 locs1 A L hc hL hP1 hD1 hS1 hA
theorem aw_alenI {ty : FieldType} {v : Int32} (h : IsI X a b c n ty) (hv : Int32.ofNat n = v) (hdg : decode Y.2.1 pc = .ok (.arraylength, 1)) (k : AW X Y lv emb ls (pc + 1) (.int v :: st) σ E) : AW X Y lv emb ls pc (.ref (X.2.2.2.2.1 a b c) :: st) σ E :=
  fun r σ1 hE p e s m args below meth cc H locs A L hc hL hP hD hS hA => by
    obtain ⟨hk, cA, hty, hsh⟩ := h
    obtain ⟨q0, hq0, hq⟩ := wd_at (σ := σ) hk.1
    obtain ⟨t0, ht0⟩ := List.mem_iff_getElem?.mp hty
    rw [hsh] at hq
    exact va_alen hc.1 hc.2.1 hc.2.2.2.2.2.1 hP q0 t0 hq ht0 hv hdg (k r σ1 hE p e s m args below meth cc H locs A L hc hL hP hD hS hA)
theorem aw_alenL {v : Int32} (h : IsL X a b c n) (hv : Int32.ofNat n = v) (hdg : decode Y.2.1 pc = .ok (.arraylength, 1)) (k : AW X Y lv emb ls (pc + 1) (.int v :: st) σ E) : AW X Y lv emb ls pc (.ref (X.2.2.2.2.1 a b c) :: st) σ E :=
  fun r σ1 hE p e s m args below meth cc H locs A L hc hL hP hD hS hA => by
    obtain ⟨hk, cA, hty, hsh⟩ := h
    obtain ⟨q0, hq0, hq⟩ := wd_at (σ := σ) hk.1
    obtain ⟨t0, ht0⟩ := List.mem_iff_getElem?.mp hty
    rw [hsh] at hq
    exact va_alen hc.1 hc.2.1 hc.2.2.2.2.2.1 hP q0 t0 hq ht0 hv hdg (k r σ1 hE p e s m args below meth cc H locs A L hc hL hP hD hS hA)
variable {ci k0 idx N : Nat} {C : String} {T : u_T} {ty : Nat → FieldType}
theorem aw_getf {val : (Nat → Int32) → (Nat → Int64) → (Nat → Bool) → (Nat → Nat) → Value} (h : FdG X a b ci k0 val) (hci : CI ci C T N ty) (hk0 : k0 < N) (hw : Cond.fieldLink Y.1.cls idx (T k0).1 (T k0).2.1 (T k0).2.2.1 ∈ Gw) (hdg : decode Y.2.1 pc = .ok (.getfield idx, 3))
    (k : AW X Y lv emb ls (pc + 3) (val (gI σ a b 0) (gL σ a b 0) (gB σ a b 0) (gR σ a b 0) :: st) σ E) : AW X Y lv emb ls pc (.ref (X.2.2.2.2.1 a b 0) :: st) σ E :=
  fun r σ1 hE p e s m args below meth cc H locs A L hc hL hP hD hS hA => by
    obtain ⟨hk, hsh⟩ := h
    obtain ⟨q0, -, hq⟩ := wd_at (σ := σ) hk.1
    obtain ⟨fs, h1, h2⟩ := hsh (gI σ a b 0) (gL σ a b 0) (gB σ a b 0) (gR σ a b 0)
    rw [h1] at hq
    exact va_get hc.1 hc.2.1 hc.2.2.2.2.1 hci.2.1 hc.2.2.2.1 hc.2.2.2.2.2.1 hP q0 hq hci.1 k0 hk0 (hc.2.2.2.2.1 _ hw) (fun _ h9 => h9) h2 hdg (k r σ1 hE p e s m args below meth cc H locs A L hc hL hP hD hS hA)
theorem aw_putI {x : Int32} (h : FdI X a b ci k0) (hci : CI ci C T N ty) (hk0 : k0 < N) (hfin : (T k0).2.2.2 = false) (hty : ty k0 = .int) (hw : Cond.fieldLink Y.1.cls idx (T k0).1 (T k0).2.1 (T k0).2.2.1 ∈ Gw) (hdg : decode Y.2.1 pc = .ok (.putfield idx, 3))
    (k : AW X Y lv emb ls (pc + 3) st (sI σ a b 0 k0 x) E) : AW X Y lv emb ls pc (.int x :: .ref (X.2.2.2.2.1 a b 0) :: st) σ E :=
  fun r σ1 hE p e s m args below meth cc H locs A L hc hL hP hD hS hA => by
    obtain ⟨hk, hsh⟩ := h
    obtain ⟨q0, hq0, hq⟩ := wd_at (σ := σ) hk.1
    obtain ⟨fs, h1, h2, h3⟩ := hsh (gI σ a b 0) (gL σ a b 0) (gB σ a b 0) (gR σ a b 0) x
    rw [h1] at hq
    refine va_put (v := .int x) (ty := .int) hc.1 hc.2.1 hc.2.2.2.2.1 hci.2.1 ty hci.2.2.1 hci.2.2.2 hc.2.2.2.1 hc.2.2.2.2.2.1 hP hD hS q0 hq hci.1 k0 hk0 (hc.2.2.2.2.1 _ hw) (fun _ h9 => h9) hfin (by rw [hci.2.2.1 k0 hk0, hty]) rfl rfl h2 hdg (fun H1 locs1 hP1 hD1 hS1 => ?_)
    rw [wd_I hk.2 hq0 h3] at hP1 hD1
    exact k r σ1 hE p e s m args below meth cc H1 locs1 A L hc hL hP1 hD1 hS1 hA
theorem aw_putL {x : Int64} (h : FdL X a b ci k0) (hci : CI ci C T N ty) (hk0 : k0 < N) (hfin : (T k0).2.2.2 = false) (hty : ty k0 = .long) (hw : Cond.fieldLink Y.1.cls idx (T k0).1 (T k0).2.1 (T k0).2.2.1 ∈ Gw) (hdg : decode Y.2.1 pc = .ok (.putfield idx, 3))
    (k : AW X Y lv emb ls (pc + 3) st (sL σ a b 0 k0 x) E) : AW X Y lv emb ls pc (.long x :: .ref (X.2.2.2.2.1 a b 0) :: st) σ E :=
  fun r σ1 hE p e s m args below meth cc H locs A L hc hL hP hD hS hA => by
    obtain ⟨hk, hsh⟩ := h
    obtain ⟨q0, hq0, hq⟩ := wd_at (σ := σ) hk.1
    obtain ⟨fs, h1, h2, h3⟩ := hsh (gI σ a b 0) (gL σ a b 0) (gB σ a b 0) (gR σ a b 0) x
    rw [h1] at hq
    refine va_put (v := .long x) (ty := .long) hc.1 hc.2.1 hc.2.2.2.2.1 hci.2.1 ty hci.2.2.1 hci.2.2.2 hc.2.2.2.1 hc.2.2.2.2.2.1 hP hD hS q0 hq hci.1 k0 hk0 (hc.2.2.2.2.1 _ hw) (fun _ h9 => h9) hfin (by rw [hci.2.2.1 k0 hk0, hty]) rfl rfl h2 hdg (fun H1 locs1 hP1 hD1 hS1 => ?_)
    rw [wd_L hk.2 hq0 h3] at hP1 hD1
    exact k r σ1 hE p e s m args below meth cc H1 locs1 A L hc hL hP1 hD1 hS1 hA
theorem aw_putB {x : Int32} {v : Bool} (hv : x = b2i v) (h : FdB X a b ci k0) (hci : CI ci C T N ty) (hk0 : k0 < N) (hfin : (T k0).2.2.2 = false) (hty : ty k0 = .boolean) (hw : Cond.fieldLink Y.1.cls idx (T k0).1 (T k0).2.1 (T k0).2.2.1 ∈ Gw) (hdg : decode Y.2.1 pc = .ok (.putfield idx, 3))
    (k : AW X Y lv emb ls (pc + 3) st (sB σ a b 0 k0 v) E) : AW X Y lv emb ls pc (.int x :: .ref (X.2.2.2.2.1 a b 0) :: st) σ E :=
  fun r σ1 hE p e s m args below meth cc H locs A L hc hL hP hD hS hA => by
    subst hv
    obtain ⟨hk, hsh⟩ := h
    obtain ⟨q0, hq0, hq⟩ := wd_at (σ := σ) hk.1
    obtain ⟨fs, h1, h2, h3⟩ := hsh (gI σ a b 0) (gL σ a b 0) (gB σ a b 0) (gR σ a b 0) v
    rw [h1] at hq
    refine va_put (v := .int (b2i v)) (ty := .boolean) hc.1 hc.2.1 hc.2.2.2.2.1 hci.2.1 ty hci.2.2.1 hci.2.2.2 hc.2.2.2.1 hc.2.2.2.2.2.1 hP hD hS q0 hq hci.1 k0 hk0 (hc.2.2.2.2.1 _ hw) (fun _ h9 => h9) hfin (by rw [hci.2.2.1 k0 hk0, hty]) (by cases v <;> decide) (by cases v <;> decide) h2 hdg (fun H1 locs1 hP1 hD1 hS1 => ?_)
    rw [wd_B hk.2 hq0 h3] at hP1 hD1
    exact k r σ1 hE p e s m args below meth cc H1 locs1 A L hc hL hP1 hD1 hS1 hA
theorem aw_putR {d x : Nat} {D0 : String} (h : FdR X a b ci k0 d) (hci : CI ci C T N ty) (hk0 : k0 < N) (hfin : (T k0).2.2.2 = false) (hty : ty k0 = .object D0) (hw : Cond.fieldLink Y.1.cls idx (T k0).1 (T k0).2.1 (T k0).2.2.1 ∈ Gw) (hdg : decode Y.2.1 pc = .ok (.putfield idx, 3))
    (k : AW X Y lv emb ls (pc + 3) st (sR σ a b 0 k0 x) E) : AW X Y lv emb ls pc (.ref (X.2.2.2.2.1 d x 0) :: .ref (X.2.2.2.2.1 a b 0) :: st) σ E :=
  fun r σ1 hE p e s m args below meth cc H locs A L hc hL hP hD hS hA => by
    obtain ⟨hk, hsh⟩ := h
    obtain ⟨q0, hq0, hq⟩ := wd_at (σ := σ) hk.1
    obtain ⟨fs, h1, h2, h3⟩ := hsh (gI σ a b 0) (gL σ a b 0) (gB σ a b 0) (gR σ a b 0) x
    rw [h1] at hq
    refine va_put (v := .ref (X.2.2.2.2.1 d x 0)) (ty := .object D0) hc.1 hc.2.1 hc.2.2.2.2.1 hci.2.1 ty hci.2.2.1 hci.2.2.2 hc.2.2.2.1 hc.2.2.2.2.2.1 hP hD hS q0 hq hci.1 k0 hk0 (hc.2.2.2.2.1 _ hw) (fun _ h9 => h9) hfin (by rw [hci.2.2.1 k0 hk0, hty]) rfl rfl h2 hdg (fun H1 locs1 hP1 hD1 hS1 => ?_)
    rw [wd_R hk.2 hq0 h3] at hP1 hD1
    exact k r σ1 hE p e s m args below meth cc H1 locs1 A L hc hL hP1 hD1 hS1 hA
end AWM
