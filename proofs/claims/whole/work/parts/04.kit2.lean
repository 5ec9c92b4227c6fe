section AWR2
variable {X : Ctx} {Y : MD} {lv : Nat} {α : Type} {emb : α → Option Value} {ls ls' : List (Nat × Value)} {pc : Nat} {st : List Value} {σ : Mem} {E : Option (α × Mem)} {γ : Type} {e' et ef : Option γ} {G : γ → Option (α × Mem)}
theorem aw_iadd {x y : Int32} (hdg : decode Y.2.1 pc = .ok (.iadd, 1)) (k : AW X Y lv emb ls (pc + 1) (.int (x + y) :: st) σ E) : AW X Y lv emb ls pc (.int y :: .int x :: st) σ E :=
  fun r σ1 hE p e s m args below meth c H locs A L hc hL hP hD hS hA => lv_iadd hc.1 hc.2.1 hdg (k r σ1 hE p e s m args below meth c H locs A L hc hL hP hD hS hA)
theorem aw_isub {x y : Int32} (hdg : decode Y.2.1 pc = .ok (.isub, 1)) (k : AW X Y lv emb ls (pc + 1) (.int (x - y) :: st) σ E) : AW X Y lv emb ls pc (.int y :: .int x :: st) σ E :=
  fun r σ1 hE p e s m args below meth c H locs A L hc hL hP hD hS hA => lv_isub hc.1 hc.2.1 hdg (k r σ1 hE p e s m args below meth c H locs A L hc hL hP hD hS hA)
theorem aw_imul {x y : Int32} (hdg : decode Y.2.1 pc = .ok (.imul, 1)) (k : AW X Y lv emb ls (pc + 1) (.int (x * y) :: st) σ E) : AW X Y lv emb ls pc (.int y :: .int x :: st) σ E :=
  fun r σ1 hE p e s m args below meth c H locs A L hc hL hP hD hS hA => lv_imul hc.1 hc.2.1 hdg (k r σ1 hE p e s m args below meth c H locs A L hc hL hP hD hS hA)
theorem aw_ior {x y : Int32} (hdg : decode Y.2.1 pc = .ok (.ior, 1)) (k : AW X Y lv emb ls (pc + 1) (.int (x ||| y) :: st) σ E) : AW X Y lv emb ls pc (.int y :: .int x :: st) σ E :=
  fun r σ1 hE p e s m args below meth c H locs A L hc hL hP hD hS hA => lv_ior hc.1 hc.2.1 hdg (k r σ1 hE p e s m args below meth c H locs A L hc hL hP hD hS hA)
theorem aw_iand {x y : Int32} (hdg : decode Y.2.1 pc = .ok (.iand, 1)) (k : AW X Y lv emb ls (pc + 1) (.int (x &&& y) :: st) σ E) : AW X Y lv emb ls pc (.int y :: .int x :: st) σ E :=
  fun r σ1 hE p e s m args below meth c H locs A L hc hL hP hD hS hA => lv_iand hc.1 hc.2.1 hdg (k r σ1 hE p e s m args below meth c H locs A L hc hL hP hD hS hA)
theorem aw_ixor {x y : Int32} (hdg : decode Y.2.1 pc = .ok (.ixor, 1)) (k : AW X Y lv emb ls (pc + 1) (.int (x ^^^ y) :: st) σ E) : AW X Y lv emb ls pc (.int y :: .int x :: st) σ E :=
  fun r σ1 hE p e s m args below meth c H locs A L hc hL hP hD hS hA => lv_ixor hc.1 hc.2.1 hdg (k r σ1 hE p e s m args below meth c H locs A L hc hL hP hD hS hA)
theorem aw_ishl {x y : Int32} (hdg : decode Y.2.1 pc = .ok (.ishl, 1)) (k : AW X Y lv emb ls (pc + 1) (.int (x <<< (y &&& 31)) :: st) σ E) : AW X Y lv emb ls pc (.int y :: .int x :: st) σ E :=
  fun r σ1 hE p e s m args below meth c H locs A L hc hL hP hD hS hA => lv_ishl hc.1 hc.2.1 hdg (k r σ1 hE p e s m args below meth c H locs A L hc hL hP hD hS hA)
theorem aw_ishr {x y : Int32} (hdg : decode Y.2.1 pc = .ok (.ishr, 1)) (k : AW X Y lv emb ls (pc + 1) (.int (x >>> (y &&& 31)) :: st) σ E) : AW X Y lv emb ls pc (.int y :: .int x :: st) σ E :=
  fun r σ1 hE p e s m args below meth c H locs A L hc hL hP hD hS hA => lv_ishr hc.1 hc.2.1 hdg (k r σ1 hE p e s m args below meth c H locs A L hc hL hP hD hS hA)
theorem aw_ladd {x y : Int64} (hdg : decode Y.2.1 pc = .ok (.ladd, 1)) (k : AW X Y lv emb ls (pc + 1) (.long (x + y) :: st) σ E) : AW X Y lv emb ls pc (.long y :: .long x :: st) σ E :=
  fun r σ1 hE p e s m args below meth c H locs A L hc hL hP hD hS hA => lv_ladd hc.1 hc.2.1 hdg (k r σ1 hE p e s m args below meth c H locs A L hc hL hP hD hS hA)
theorem aw_lsub {x y : Int64} (hdg : decode Y.2.1 pc = .ok (.lsub, 1)) (k : AW X Y lv emb ls (pc + 1) (.long (x - y) :: st) σ E) : AW X Y lv emb ls pc (.long y :: .long x :: st) σ E :=
  fun r σ1 hE p e s m args below meth c H locs A L hc hL hP hD hS hA => lv_lsub hc.1 hc.2.1 hdg (k r σ1 hE p e s m args below meth c H locs A L hc hL hP hD hS hA)
theorem aw_lmul {x y : Int64} (hdg : decode Y.2.1 pc = .ok (.lmul, 1)) (k : AW X Y lv emb ls (pc + 1) (.long (x * y) :: st) σ E) : AW X Y lv emb ls pc (.long y :: .long x :: st) σ E :=
  fun r σ1 hE p e s m args below meth c H locs A L hc hL hP hD hS hA => lv_lmul hc.1 hc.2.1 hdg (k r σ1 hE p e s m args below meth c H locs A L hc hL hP hD hS hA)
def iRem (x y : Int32) : Int32 := x - x / y * y
def lRem (x y : Int64) : Int64 := x - x / y * y
theorem aw_idiv {x y : Int32} (hdg : decode Y.2.1 pc = .ok (.idiv, 1)) (k : AW X Y lv emb ls (pc + 1) (.int (x / y) :: st) σ (e'.bind G)) : AW X Y lv emb ls pc (.int y :: .int x :: st) σ ((if y = 0 then none else e').bind G) :=
  fun r σ1 hE p e s m args below meth c H locs A L hc hL hP hD hS hA => by
    by_cases h0 : y = 0
    · rw [if_pos h0] at hE; cases hE
    · rw [if_neg h0] at hE
      exact lv_idiv hc.1 hc.2.1 hdg h0 (k r σ1 hE p e s m args below meth c H locs A L hc hL hP hD hS hA)
theorem aw_irem {x y : Int32} (hdg : decode Y.2.1 pc = .ok (.irem, 1)) (k : AW X Y lv emb ls (pc + 1) (.int (iRem x y) :: st) σ (e'.bind G)) : AW X Y lv emb ls pc (.int y :: .int x :: st) σ ((if y = 0 then none else e').bind G) :=
  fun r σ1 hE p e s m args below meth c H locs A L hc hL hP hD hS hA => by
    by_cases h0 : y = 0
    · rw [if_pos h0] at hE; cases hE
    · rw [if_neg h0] at hE
      exact lv_irem hc.1 hc.2.1 hdg h0 (k r σ1 hE p e s m args below meth c H locs A L hc hL hP hD hS hA)
theorem aw_ldiv {x y : Int64} (hdg : decode Y.2.1 pc = .ok (.ldiv, 1)) (k : AW X Y lv emb ls (pc + 1) (.long (x / y) :: st) σ (e'.bind G)) : AW X Y lv emb ls pc (.long y :: .long x :: st) σ ((if y = 0 then none else e').bind G) :=
  fun r σ1 hE p e s m args below meth c H locs A L hc hL hP hD hS hA => by
    by_cases h0 : y = 0
    · rw [if_pos h0] at hE; cases hE
    · rw [if_neg h0] at hE
      exact lv_ldiv hc.1 hc.2.1 hdg h0 (k r σ1 hE p e s m args below meth c H locs A L hc hL hP hD hS hA)
theorem aw_lrem {x y : Int64} (hdg : decode Y.2.1 pc = .ok (.lrem, 1)) (k : AW X Y lv emb ls (pc + 1) (.long (lRem x y) :: st) σ (e'.bind G)) : AW X Y lv emb ls pc (.long y :: .long x :: st) σ ((if y = 0 then none else e').bind G) :=
  fun r σ1 hE p e s m args below meth c H locs A L hc hL hP hD hS hA => by
    by_cases h0 : y = 0
    · rw [if_pos h0] at hE; cases hE
    · rw [if_neg h0] at hE
      exact lv_lrem hc.1 hc.2.1 hdg h0 (k r σ1 hE p e s m args below meth c H locs A L hc hL hP hD hS hA)
theorem aw_idiv_c {x y : Int32} (hdg : decode Y.2.1 pc = .ok (.idiv, 1)) (h0 : ¬ y = 0) (k : AW X Y lv emb ls (pc + 1) (.int (x / y) :: st) σ E) : AW X Y lv emb ls pc (.int y :: .int x :: st) σ E :=
  fun r σ1 hE p e s m args below meth c H locs A L hc hL hP hD hS hA => lv_idiv hc.1 hc.2.1 hdg h0 (k r σ1 hE p e s m args below meth c H locs A L hc hL hP hD hS hA)
theorem aw_irem_c {x y : Int32} (hdg : decode Y.2.1 pc = .ok (.irem, 1)) (h0 : ¬ y = 0) (k : AW X Y lv emb ls (pc + 1) (.int (iRem x y) :: st) σ E) : AW X Y lv emb ls pc (.int y :: .int x :: st) σ E :=
  fun r σ1 hE p e s m args below meth c H locs A L hc hL hP hD hS hA => lv_irem hc.1 hc.2.1 hdg h0 (k r σ1 hE p e s m args below meth c H locs A L hc hL hP hD hS hA)
theorem aw_ldiv_c {x y : Int64} (hdg : decode Y.2.1 pc = .ok (.ldiv, 1)) (h0 : ¬ y = 0) (k : AW X Y lv emb ls (pc + 1) (.long (x / y) :: st) σ E) : AW X Y lv emb ls pc (.long y :: .long x :: st) σ E :=
  fun r σ1 hE p e s m args below meth c H locs A L hc hL hP hD hS hA => lv_ldiv hc.1 hc.2.1 hdg h0 (k r σ1 hE p e s m args below meth c H locs A L hc hL hP hD hS hA)
theorem aw_lrem_c {x y : Int64} (hdg : decode Y.2.1 pc = .ok (.lrem, 1)) (h0 : ¬ y = 0) (k : AW X Y lv emb ls (pc + 1) (.long (lRem x y) :: st) σ E) : AW X Y lv emb ls pc (.long y :: .long x :: st) σ E :=
  fun r σ1 hE p e s m args below meth c H locs A L hc hL hP hD hS hA => lv_lrem hc.1 hc.2.1 hdg h0 (k r σ1 hE p e s m args below meth c H locs A L hc hL hP hD hS hA)
theorem aw_ineg {x : Int32} (hdg : decode Y.2.1 pc = .ok (.ineg, 1)) (k : AW X Y lv emb ls (pc + 1) (.int (-x) :: st) σ E) : AW X Y lv emb ls pc (.int x :: st) σ E :=
  fun r σ1 hE p e s m args below meth c H locs A L hc hL hP hD hS hA => lv_ineg hc.1 hc.2.1 hdg (k r σ1 hE p e s m args below meth c H locs A L hc hL hP hD hS hA)
theorem aw_lneg {x : Int64} (hdg : decode Y.2.1 pc = .ok (.lneg, 1)) (k : AW X Y lv emb ls (pc + 1) (.long (-x) :: st) σ E) : AW X Y lv emb ls pc (.long x :: st) σ E :=
  fun r σ1 hE p e s m args below meth c H locs A L hc hL hP hD hS hA => lv_lneg hc.1 hc.2.1 hdg (k r σ1 hE p e s m args below meth c H locs A L hc hL hP hD hS hA)
theorem aw_i2l {x : Int32} (hdg : decode Y.2.1 pc = .ok (.i2l, 1)) (k : AW X Y lv emb ls (pc + 1) (.long (x.toInt64) :: st) σ E) : AW X Y lv emb ls pc (.int x :: st) σ E :=
  fun r σ1 hE p e s m args below meth c H locs A L hc hL hP hD hS hA => lv_i2l hc.1 hc.2.1 hdg rfl (k r σ1 hE p e s m args below meth c H locs A L hc hL hP hD hS hA)
theorem aw_l2i {x : Int64} (hdg : decode Y.2.1 pc = .ok (.l2i, 1)) (k : AW X Y lv emb ls (pc + 1) (.int (x.toInt32) :: st) σ E) : AW X Y lv emb ls pc (.long x :: st) σ E :=
  fun r σ1 hE p e s m args below meth c H locs A L hc hL hP hD hS hA => lv_l2i hc.1 hc.2.1 hdg rfl (k r σ1 hE p e s m args below meth c H locs A L hc hL hP hD hS hA)
theorem aw_i2b {x : Int32} (hdg : decode Y.2.1 pc = .ok (.i2b, 1)) (k : AW X Y lv emb ls (pc + 1) (.int (x.toInt8.toInt32) :: st) σ E) : AW X Y lv emb ls pc (.int x :: st) σ E :=
  fun r σ1 hE p e s m args below meth c H locs A L hc hL hP hD hS hA => lv_i2b hc.1 hc.2.1 hdg rfl (k r σ1 hE p e s m args below meth c H locs A L hc hL hP hD hS hA)
theorem aw_i2s {x : Int32} (hdg : decode Y.2.1 pc = .ok (.i2s, 1)) (k : AW X Y lv emb ls (pc + 1) (.int (x.toInt16.toInt32) :: st) σ E) : AW X Y lv emb ls pc (.int x :: st) σ E :=
  fun r σ1 hE p e s m args below meth c H locs A L hc hL hP hD hS hA => lv_i2s hc.1 hc.2.1 hdg rfl (k r σ1 hE p e s m args below meth c H locs A L hc hL hP hD hS hA)
theorem aw_lcmp {x y : Int64} (hdg : decode Y.2.1 pc = .ok (.lcmp, 1)) (k : AW X Y lv emb ls (pc + 1) (.int (lg_cmp x y) :: st) σ E) : AW X Y lv emb ls pc (.long y :: .long x :: st) σ E :=
  fun r σ1 hE p e s m args below meth c H locs A L hc hL hP hD hS hA => W.lcmp hc.1 hc.2.1 hdg (k r σ1 hE p e s m args below meth c H locs A L hc hL hP hD hS hA)
theorem aw_dup2_11 {va vb : Value} (hdg : decode Y.2.1 pc = .ok (.dup2, 1)) (ha : va.category = 1) (hb : vb.category = 1) (k : AW X Y lv emb ls (pc + 1) (va :: vb :: va :: vb :: st) σ E) : AW X Y lv emb ls pc (va :: vb :: st) σ E :=
  fun r σ1 hE p e s m args below meth c H locs A L hc hL hP hD hS hA => lv_dup2_11 hc.1 hc.2.1 hdg ha hb (k r σ1 hE p e s m args below meth c H locs A L hc hL hP hD hS hA)
theorem aw_istore {i : Nat} {x : Int32} (ks : List Nat) (hdg : decode Y.2.1 pc = .ok (.istore i, 2)) (hn : i < Y.2.2.1) (hl : lv_pick ((i, .int x) :: ls.filter (fun q => !(q.1 == i) && !(q.1 + 1 == i && q.2.category == 2))) ks = ls') (k : AW X Y lv emb ls' (pc + 2) st σ E) : AW X Y lv emb ls pc (.int x :: st) σ E :=
  fun r σ1 hE p e s m args below meth c H locs A L hc hL hP hD hS hA => lv_istore hc.1 hc.2.1 hdg hL hn rfl (fun L1 hL1 => (k r σ1 hE p e s m args below meth c H locs A L1 hc (lv_sub hL1 ks hl) hP hD hS hA))
theorem aw_istore_n {i : Nat} {j : Fin 4} {x : Int32} (ks : List Nat) (hdg : decode Y.2.1 pc = .ok (.istore_n j, 1)) (hi : (j : Nat) = i) (hn : i < Y.2.2.1) (hl : lv_pick ((i, .int x) :: ls.filter (fun q => !(q.1 == i) && !(q.1 + 1 == i && q.2.category == 2))) ks = ls') (k : AW X Y lv emb ls' (pc + 1) st σ E) : AW X Y lv emb ls pc (.int x :: st) σ E :=
  fun r σ1 hE p e s m args below meth c H locs A L hc hL hP hD hS hA => lv_istore_n hc.1 hc.2.1 hdg hi hL hn rfl (fun L1 hL1 => (k r σ1 hE p e s m args below meth c H locs A L1 hc (lv_sub hL1 ks hl) hP hD hS hA))
theorem aw_lstore {i : Nat} {x : Int64} (ks : List Nat) (hdg : decode Y.2.1 pc = .ok (.lstore i, 2)) (hn : i + 1 < Y.2.2.1) (hl : lv_pick ((i, .long x) :: ls.filter (fun q => !(q.1 == i) && (!(q.1 == i + 1) && !(q.1 + 1 == i && q.2.category == 2)))) ks = ls') (k : AW X Y lv emb ls' (pc + 2) st σ E) : AW X Y lv emb ls pc (.long x :: st) σ E :=
  fun r σ1 hE p e s m args below meth c H locs A L hc hL hP hD hS hA => lv_lstore hc.1 hc.2.1 hdg hL hn rfl (fun L1 hL1 => (k r σ1 hE p e s m args below meth c H locs A L1 hc (lv_sub hL1 ks hl) hP hD hS hA))
theorem aw_lstore_n {i : Nat} {j : Fin 4} {x : Int64} (ks : List Nat) (hdg : decode Y.2.1 pc = .ok (.lstore_n j, 1)) (hi : (j : Nat) = i) (hn : i + 1 < Y.2.2.1) (hl : lv_pick ((i, .long x) :: ls.filter (fun q => !(q.1 == i) && (!(q.1 == i + 1) && !(q.1 + 1 == i && q.2.category == 2)))) ks = ls') (k : AW X Y lv emb ls' (pc + 1) st σ E) : AW X Y lv emb ls pc (.long x :: st) σ E :=
  fun r σ1 hE p e s m args below meth c H locs A L hc hL hP hD hS hA => lv_lstore_n hc.1 hc.2.1 hdg hi hL hn rfl (fun L1 hL1 => (k r σ1 hE p e s m args below meth c H locs A L1 hc (lv_sub hL1 ks hl) hP hD hS hA))
theorem aw_astore {i : Nat} {x : Nat} (ks : List Nat) (hdg : decode Y.2.1 pc = .ok (.astore i, 2)) (hn : i < Y.2.2.1) (hl : lv_pick ((i, .ref x) :: ls.filter (fun q => !(q.1 == i) && !(q.1 + 1 == i && q.2.category == 2))) ks = ls') (k : AW X Y lv emb ls' (pc + 2) st σ E) : AW X Y lv emb ls pc (.ref x :: st) σ E :=
  fun r σ1 hE p e s m args below meth c H locs A L hc hL hP hD hS hA => lv_astore hc.1 hc.2.1 hdg hL hn rfl (fun L1 hL1 => (k r σ1 hE p e s m args below meth c H locs A L1 hc (lv_sub hL1 ks hl) hP hD hS hA))
theorem aw_astore_n {i : Nat} {j : Fin 4} {x : Nat} (ks : List Nat) (hdg : decode Y.2.1 pc = .ok (.astore_n j, 1)) (hi : (j : Nat) = i) (hn : i < Y.2.2.1) (hl : lv_pick ((i, .ref x) :: ls.filter (fun q => !(q.1 == i) && !(q.1 + 1 == i && q.2.category == 2))) ks = ls') (k : AW X Y lv emb ls' (pc + 1) st σ E) : AW X Y lv emb ls pc (.ref x :: st) σ E :=
  fun r σ1 hE p e s m args below meth c H locs A L hc hL hP hD hS hA => lv_astore_n hc.1 hc.2.1 hdg hi hL hn rfl (fun L1 hL1 => (k r σ1 hE p e s m args below meth c H locs A L1 hc (lv_sub hL1 ks hl) hP hD hS hA))
theorem aw_iinc {i : Nat} {n : Int} {x : Int32} (v : Int32) (q : Nat) (ks : List Nat) (hdg : decode Y.2.1 pc = .ok (.iinc i n, 3)) (hq : ls[q]? = some (i, .int x)) (hv : x + Int32.ofInt n = v) (hn : i < Y.2.2.1) (hl : lv_pick ((i, .int v) :: ls.filter (fun q => !(q.1 == i) && !(q.1 + 1 == i && q.2.category == 2))) ks = ls') (k : AW X Y lv emb ls' (pc + 3) st σ E) : AW X Y lv emb ls pc st σ E :=
  fun r σ1 hE p e s m args below meth c H locs A L hc hL hP hD hS hA => lv_iinc hc.1 hc.2.1 hdg hL hq hv hn rfl (fun L1 hL1 => (k r σ1 hE p e s m args below meth c H locs A L1 hc (lv_sub hL1 ks hl) hP hD hS hA))
theorem aw_if_eq {x : Int32} {off : Int} (tgt : Nat) (hdg : decode Y.2.1 pc = .ok (.ifCond .eq off, 3)) (ht : (pc : Int) + off = (tgt : Int)) (kt : AW X Y lv emb ls tgt st σ (et.bind G)) (kf : AW X Y lv emb ls (pc + 3) st σ (ef.bind G)) : AW X Y lv emb ls pc (.int x :: st) σ ((if x = 0 then et else ef).bind G) :=
  fun r σ1 hE p e s m args below meth c H locs A L hc hL hP hD hS hA => lv_if_eq hc.1 hc.2.1 hdg ht (fun h => (kt r σ1 (by rw [if_pos h] at hE; exact hE) p e s m args below meth c H locs A L hc hL hP hD hS hA)) (fun h => (kf r σ1 (by rw [if_neg h] at hE; exact hE) p e s m args below meth c H locs A L hc hL hP hD hS hA))
theorem aw_if_lt {x : Int32} {off : Int} (tgt : Nat) (hdg : decode Y.2.1 pc = .ok (.ifCond .lt off, 3)) (ht : (pc : Int) + off = (tgt : Int)) (kt : AW X Y lv emb ls tgt st σ (et.bind G)) (kf : AW X Y lv emb ls (pc + 3) st σ (ef.bind G)) : AW X Y lv emb ls pc (.int x :: st) σ ((if x < 0 then et else ef).bind G) :=
  fun r σ1 hE p e s m args below meth c H locs A L hc hL hP hD hS hA => lv_if_lt hc.1 hc.2.1 hdg ht (fun h => (kt r σ1 (by rw [if_pos h] at hE; exact hE) p e s m args below meth c H locs A L hc hL hP hD hS hA)) (fun h => (kf r σ1 (by rw [if_neg h] at hE; exact hE) p e s m args below meth c H locs A L hc hL hP hD hS hA))
theorem aw_if_ge {x : Int32} {off : Int} (tgt : Nat) (hdg : decode Y.2.1 pc = .ok (.ifCond .ge off, 3)) (ht : (pc : Int) + off = (tgt : Int)) (kt : AW X Y lv emb ls tgt st σ (et.bind G)) (kf : AW X Y lv emb ls (pc + 3) st σ (ef.bind G)) : AW X Y lv emb ls pc (.int x :: st) σ ((if 0 ≤ x then et else ef).bind G) :=
  fun r σ1 hE p e s m args below meth c H locs A L hc hL hP hD hS hA => lv_if_ge hc.1 hc.2.1 hdg ht (fun h => (kt r σ1 (by rw [if_pos h] at hE; exact hE) p e s m args below meth c H locs A L hc hL hP hD hS hA)) (fun h => (kf r σ1 (by rw [if_neg h] at hE; exact hE) p e s m args below meth c H locs A L hc hL hP hD hS hA))
theorem aw_if_gt {x : Int32} {off : Int} (tgt : Nat) (hdg : decode Y.2.1 pc = .ok (.ifCond .gt off, 3)) (ht : (pc : Int) + off = (tgt : Int)) (kt : AW X Y lv emb ls tgt st σ (et.bind G)) (kf : AW X Y lv emb ls (pc + 3) st σ (ef.bind G)) : AW X Y lv emb ls pc (.int x :: st) σ ((if 0 < x then et else ef).bind G) :=
  fun r σ1 hE p e s m args below meth c H locs A L hc hL hP hD hS hA => lv_if_gt hc.1 hc.2.1 hdg ht (fun h => (kt r σ1 (by rw [if_pos h] at hE; exact hE) p e s m args below meth c H locs A L hc hL hP hD hS hA)) (fun h => (kf r σ1 (by rw [if_neg h] at hE; exact hE) p e s m args below meth c H locs A L hc hL hP hD hS hA))
theorem aw_if_le {x : Int32} {off : Int} (tgt : Nat) (hdg : decode Y.2.1 pc = .ok (.ifCond .le off, 3)) (ht : (pc : Int) + off = (tgt : Int)) (kt : AW X Y lv emb ls tgt st σ (et.bind G)) (kf : AW X Y lv emb ls (pc + 3) st σ (ef.bind G)) : AW X Y lv emb ls pc (.int x :: st) σ ((if x ≤ 0 then et else ef).bind G) :=
  fun r σ1 hE p e s m args below meth c H locs A L hc hL hP hD hS hA => lv_if_le hc.1 hc.2.1 hdg ht (fun h => (kt r σ1 (by rw [if_pos h] at hE; exact hE) p e s m args below meth c H locs A L hc hL hP hD hS hA)) (fun h => (kf r σ1 (by rw [if_neg h] at hE; exact hE) p e s m args below meth c H locs A L hc hL hP hD hS hA))
theorem aw_if_ne {x : Int32} {off : Int} (tgt : Nat) (hdg : decode Y.2.1 pc = .ok (.ifCond .ne off, 3)) (ht : (pc : Int) + off = (tgt : Int)) (kt : AW X Y lv emb ls tgt st σ (et.bind G)) (kf : AW X Y lv emb ls (pc + 3) st σ (ef.bind G)) : AW X Y lv emb ls pc (.int x :: st) σ ((if x = 0 then ef else et).bind G) :=
  fun r σ1 hE p e s m args below meth c H locs A L hc hL hP hD hS hA => lv_if_ne hc.1 hc.2.1 hdg ht (fun h => (kt r σ1 (by rw [if_neg h] at hE; exact hE) p e s m args below meth c H locs A L hc hL hP hD hS hA)) (fun h => (kf r σ1 (by rw [if_pos h] at hE; exact hE) p e s m args below meth c H locs A L hc hL hP hD hS hA))
theorem aw_icmp_eq {x y : Int32} {off : Int} (tgt : Nat) (hdg : decode Y.2.1 pc = .ok (.if_icmp .eq off, 3)) (ht : (pc : Int) + off = (tgt : Int)) (kt : AW X Y lv emb ls tgt st σ (et.bind G)) (kf : AW X Y lv emb ls (pc + 3) st σ (ef.bind G)) : AW X Y lv emb ls pc (.int y :: .int x :: st) σ ((if x = y then et else ef).bind G) :=
  fun r σ1 hE p e s m args below meth c H locs A L hc hL hP hD hS hA => lv_icmp_eq hc.1 hc.2.1 hdg ht (fun h => (kt r σ1 (by rw [if_pos h] at hE; exact hE) p e s m args below meth c H locs A L hc hL hP hD hS hA)) (fun h => (kf r σ1 (by rw [if_neg h] at hE; exact hE) p e s m args below meth c H locs A L hc hL hP hD hS hA))
theorem aw_icmp_lt {x y : Int32} {off : Int} (tgt : Nat) (hdg : decode Y.2.1 pc = .ok (.if_icmp .lt off, 3)) (ht : (pc : Int) + off = (tgt : Int)) (kt : AW X Y lv emb ls tgt st σ (et.bind G)) (kf : AW X Y lv emb ls (pc + 3) st σ (ef.bind G)) : AW X Y lv emb ls pc (.int y :: .int x :: st) σ ((if x < y then et else ef).bind G) :=
  fun r σ1 hE p e s m args below meth c H locs A L hc hL hP hD hS hA => lv_icmp_lt hc.1 hc.2.1 hdg ht (fun h => (kt r σ1 (by rw [if_pos h] at hE; exact hE) p e s m args below meth c H locs A L hc hL hP hD hS hA)) (fun h => (kf r σ1 (by rw [if_neg h] at hE; exact hE) p e s m args below meth c H locs A L hc hL hP hD hS hA))
theorem aw_icmp_ge {x y : Int32} {off : Int} (tgt : Nat) (hdg : decode Y.2.1 pc = .ok (.if_icmp .ge off, 3)) (ht : (pc : Int) + off = (tgt : Int)) (kt : AW X Y lv emb ls tgt st σ (et.bind G)) (kf : AW X Y lv emb ls (pc + 3) st σ (ef.bind G)) : AW X Y lv emb ls pc (.int y :: .int x :: st) σ ((if y ≤ x then et else ef).bind G) :=
  fun r σ1 hE p e s m args below meth c H locs A L hc hL hP hD hS hA => lv_icmp_ge hc.1 hc.2.1 hdg ht (fun h => (kt r σ1 (by rw [if_pos h] at hE; exact hE) p e s m args below meth c H locs A L hc hL hP hD hS hA)) (fun h => (kf r σ1 (by rw [if_neg h] at hE; exact hE) p e s m args below meth c H locs A L hc hL hP hD hS hA))
theorem aw_icmp_gt {x y : Int32} {off : Int} (tgt : Nat) (hdg : decode Y.2.1 pc = .ok (.if_icmp .gt off, 3)) (ht : (pc : Int) + off = (tgt : Int)) (kt : AW X Y lv emb ls tgt st σ (et.bind G)) (kf : AW X Y lv emb ls (pc + 3) st σ (ef.bind G)) : AW X Y lv emb ls pc (.int y :: .int x :: st) σ ((if y < x then et else ef).bind G) :=
  fun r σ1 hE p e s m args below meth c H locs A L hc hL hP hD hS hA => lv_icmp_gt hc.1 hc.2.1 hdg ht (fun h => (kt r σ1 (by rw [if_pos h] at hE; exact hE) p e s m args below meth c H locs A L hc hL hP hD hS hA)) (fun h => (kf r σ1 (by rw [if_neg h] at hE; exact hE) p e s m args below meth c H locs A L hc hL hP hD hS hA))
theorem aw_icmp_le {x y : Int32} {off : Int} (tgt : Nat) (hdg : decode Y.2.1 pc = .ok (.if_icmp .le off, 3)) (ht : (pc : Int) + off = (tgt : Int)) (kt : AW X Y lv emb ls tgt st σ (et.bind G)) (kf : AW X Y lv emb ls (pc + 3) st σ (ef.bind G)) : AW X Y lv emb ls pc (.int y :: .int x :: st) σ ((if x ≤ y then et else ef).bind G) :=
  fun r σ1 hE p e s m args below meth c H locs A L hc hL hP hD hS hA => lv_icmp_le hc.1 hc.2.1 hdg ht (fun h => (kt r σ1 (by rw [if_pos h] at hE; exact hE) p e s m args below meth c H locs A L hc hL hP hD hS hA)) (fun h => (kf r σ1 (by rw [if_neg h] at hE; exact hE) p e s m args below meth c H locs A L hc hL hP hD hS hA))
theorem aw_icmp_ne {x y : Int32} {off : Int} (tgt : Nat) (hdg : decode Y.2.1 pc = .ok (.if_icmp .ne off, 3)) (ht : (pc : Int) + off = (tgt : Int)) (kt : AW X Y lv emb ls tgt st σ (et.bind G)) (kf : AW X Y lv emb ls (pc + 3) st σ (ef.bind G)) : AW X Y lv emb ls pc (.int y :: .int x :: st) σ ((if x = y then ef else et).bind G) :=
  fun r σ1 hE p e s m args below meth c H locs A L hc hL hP hD hS hA => lv_icmp_ne hc.1 hc.2.1 hdg ht (fun h => (kt r σ1 (by rw [if_neg h] at hE; exact hE) p e s m args below meth c H locs A L hc hL hP hD hS hA)) (fun h => (kf r σ1 (by rw [if_pos h] at hE; exact hE) p e s m args below meth c H locs A L hc hL hP hD hS hA))
theorem aw_lif_eq {x y : Int64} {off : Int} (tgt : Nat) (hdg : decode Y.2.1 pc = .ok (.ifCond .eq off, 3)) (ht : (pc : Int) + off = (tgt : Int)) (kt : AW X Y lv emb ls tgt st σ (et.bind G)) (kf : AW X Y lv emb ls (pc + 3) st σ (ef.bind G)) : AW X Y lv emb ls pc (.int (lg_cmp x y) :: st) σ ((if x = y then et else ef).bind G) :=
  fun r σ1 hE p e s m args below meth c H locs A L hc hL hP hD hS hA => lv_if_eq hc.1 hc.2.1 hdg ht (fun h => (kt r σ1 (by rw [if_pos ((lg_cmp_eq x y).mp h)] at hE; exact hE) p e s m args below meth c H locs A L hc hL hP hD hS hA)) (fun h => (kf r σ1 (by rw [if_neg (fun z => h ((lg_cmp_eq x y).mpr z))] at hE; exact hE) p e s m args below meth c H locs A L hc hL hP hD hS hA))
theorem aw_lif_lt {x y : Int64} {off : Int} (tgt : Nat) (hdg : decode Y.2.1 pc = .ok (.ifCond .lt off, 3)) (ht : (pc : Int) + off = (tgt : Int)) (kt : AW X Y lv emb ls tgt st σ (et.bind G)) (kf : AW X Y lv emb ls (pc + 3) st σ (ef.bind G)) : AW X Y lv emb ls pc (.int (lg_cmp x y) :: st) σ ((if x < y then et else ef).bind G) :=
  fun r σ1 hE p e s m args below meth c H locs A L hc hL hP hD hS hA => lv_if_lt hc.1 hc.2.1 hdg ht (fun h => (kt r σ1 (by rw [if_pos ((lg_cmp_lt x y).mp h)] at hE; exact hE) p e s m args below meth c H locs A L hc hL hP hD hS hA)) (fun h => (kf r σ1 (by rw [if_neg (fun z => h ((lg_cmp_lt x y).mpr z))] at hE; exact hE) p e s m args below meth c H locs A L hc hL hP hD hS hA))
theorem aw_lif_ge {x y : Int64} {off : Int} (tgt : Nat) (hdg : decode Y.2.1 pc = .ok (.ifCond .ge off, 3)) (ht : (pc : Int) + off = (tgt : Int)) (kt : AW X Y lv emb ls tgt st σ (et.bind G)) (kf : AW X Y lv emb ls (pc + 3) st σ (ef.bind G)) : AW X Y lv emb ls pc (.int (lg_cmp x y) :: st) σ ((if y ≤ x then et else ef).bind G) :=
  fun r σ1 hE p e s m args below meth c H locs A L hc hL hP hD hS hA => lv_if_ge hc.1 hc.2.1 hdg ht (fun h => (kt r σ1 (by rw [if_pos ((lg_cmp_ge x y).mp h)] at hE; exact hE) p e s m args below meth c H locs A L hc hL hP hD hS hA)) (fun h => (kf r σ1 (by rw [if_neg (fun z => h ((lg_cmp_ge x y).mpr z))] at hE; exact hE) p e s m args below meth c H locs A L hc hL hP hD hS hA))
theorem aw_lif_gt {x y : Int64} {off : Int} (tgt : Nat) (hdg : decode Y.2.1 pc = .ok (.ifCond .gt off, 3)) (ht : (pc : Int) + off = (tgt : Int)) (kt : AW X Y lv emb ls tgt st σ (et.bind G)) (kf : AW X Y lv emb ls (pc + 3) st σ (ef.bind G)) : AW X Y lv emb ls pc (.int (lg_cmp x y) :: st) σ ((if y < x then et else ef).bind G) :=
  fun r σ1 hE p e s m args below meth c H locs A L hc hL hP hD hS hA => lv_if_gt hc.1 hc.2.1 hdg ht (fun h => (kt r σ1 (by rw [if_pos ((lg_cmp_gt x y).mp h)] at hE; exact hE) p e s m args below meth c H locs A L hc hL hP hD hS hA)) (fun h => (kf r σ1 (by rw [if_neg (fun z => h ((lg_cmp_gt x y).mpr z))] at hE; exact hE) p e s m args below meth c H locs A L hc hL hP hD hS hA))
theorem aw_lif_le {x y : Int64} {off : Int} (tgt : Nat) (hdg : decode Y.2.1 pc = .ok (.ifCond .le off, 3)) (ht : (pc : Int) + off = (tgt : Int)) (kt : AW X Y lv emb ls tgt st σ (et.bind G)) (kf : AW X Y lv emb ls (pc + 3) st σ (ef.bind G)) : AW X Y lv emb ls pc (.int (lg_cmp x y) :: st) σ ((if x ≤ y then et else ef).bind G) :=
  fun r σ1 hE p e s m args below meth c H locs A L hc hL hP hD hS hA => lv_if_le hc.1 hc.2.1 hdg ht (fun h => (kt r σ1 (by rw [if_pos ((lg_cmp_le x y).mp h)] at hE; exact hE) p e s m args below meth c H locs A L hc hL hP hD hS hA)) (fun h => (kf r σ1 (by rw [if_neg (fun z => h ((lg_cmp_le x y).mpr z))] at hE; exact hE) p e s m args below meth c H locs A L hc hL hP hD hS hA))
theorem aw_lif_ne {x y : Int64} {off : Int} (tgt : Nat) (hdg : decode Y.2.1 pc = .ok (.ifCond .ne off, 3)) (ht : (pc : Int) + off = (tgt : Int)) (kt : AW X Y lv emb ls tgt st σ (et.bind G)) (kf : AW X Y lv emb ls (pc + 3) st σ (ef.bind G)) : AW X Y lv emb ls pc (.int (lg_cmp x y) :: st) σ ((if x = y then ef else et).bind G) :=
  fun r σ1 hE p e s m args below meth c H locs A L hc hL hP hD hS hA => lv_if_ne hc.1 hc.2.1 hdg ht (fun h => (kt r σ1 (by rw [if_neg (fun z => h ((lg_cmp_eq x y).mpr z))] at hE; exact hE) p e s m args below meth c H locs A L hc hL hP hD hS hA)) (fun h => (kf r σ1 (by rw [if_pos ((lg_cmp_eq x y).mp h)] at hE; exact hE) p e s m args below meth c H locs A L hc hL hP hD hS hA))
theorem b2i_0 {b : Bool} : b2i b = 0 ↔ b = false := by cases b <;> decide
theorem aw_bif_eq {b : Bool} {off : Int} (tgt : Nat) (hdg : decode Y.2.1 pc = .ok (.ifCond .eq off, 3)) (ht : (pc : Int) + off = (tgt : Int)) (kt : AW X Y lv emb ls tgt st σ (et.bind G)) (kf : AW X Y lv emb ls (pc + 3) st σ (ef.bind G)) : AW X Y lv emb ls pc (.int (b2i b) :: st) σ ((if b = true then ef else et).bind G) :=
  fun r σ1 hE p e s m args below meth c H locs A L hc hL hP hD hS hA => lv_if_eq hc.1 hc.2.1 hdg ht (fun h => (kt r σ1 (by rw [if_neg (by rw [b2i_0.mp h]; decide)] at hE; exact hE) p e s m args below meth c H locs A L hc hL hP hD hS hA)) (fun h => (kf r σ1 (by rw [if_pos (by cases b with | true => rfl | false => exact absurd (by decide) h)] at hE; exact hE) p e s m args below meth c H locs A L hc hL hP hD hS hA))
theorem aw_bif_ne {b : Bool} {off : Int} (tgt : Nat) (hdg : decode Y.2.1 pc = .ok (.ifCond .ne off, 3)) (ht : (pc : Int) + off = (tgt : Int)) (kt : AW X Y lv emb ls tgt st σ (et.bind G)) (kf : AW X Y lv emb ls (pc + 3) st σ (ef.bind G)) : AW X Y lv emb ls pc (.int (b2i b) :: st) σ ((if b = true then et else ef).bind G) :=
  fun r σ1 hE p e s m args below meth c H locs A L hc hL hP hD hS hA => lv_if_ne hc.1 hc.2.1 hdg ht (fun h => (kt r σ1 (by rw [if_pos (by cases b with | true => rfl | false => exact absurd (by decide) h)] at hE; exact hE) p e s m args below meth c H locs A L hc hL hP hD hS hA)) (fun h => (kf r σ1 (by rw [if_neg (by rw [b2i_0.mp h]; decide)] at hE; exact hE) p e s m args below meth c H locs A L hc hL hP hD hS hA))
def oM (σ : Mem) {β : Type} (e : Option β) : Option (β × Mem) := e.bind (fun v => some (v, σ))
def bnd {β γ : Type} (x : β) (f : β → γ) : γ := f x
theorem aw_iteT {c : Prop} [Decidable c] {a b : γ} (k : AW X Y lv emb ls pc st σ ((if c then some a else some b).bind G)) : AW X Y lv emb ls pc st σ ((some (if c then a else b)).bind G) := by
  refine aw_eq ?_ k
  by_cases h : c <;> simp [h]
theorem aw_entry {F : Option (α × Mem)} (k : AW X Y lv emb ls pc st σ (F.bind some)) : AW X Y lv emb ls pc st σ F := aw_eq (by simp) k
theorem aw_leaf {v : γ} (k : AW X Y lv emb ls pc st σ (G v)) : AW X Y lv emb ls pc st σ ((some v).bind G) := k
theorem aw_noneB : AW X Y lv emb ls pc st σ ((none).bind G) := aw_none
theorem aw_bndM {v : Mem} {K : Mem → Option γ} (k : ∀ v, AW X Y lv emb ls pc st v ((K v).bind G)) : AW X Y lv emb ls pc st v ((bnd v K).bind G) := k v
theorem aw_bnd_int {v : Int32} {K : Int32 → Option γ} (k : ∀ v, AW X Y lv emb ls pc (.int v :: st) σ ((K v).bind G)) : AW X Y lv emb ls pc (.int v :: st) σ ((bnd v K).bind G) := k v
theorem aw_bndT_int {v : Int32} {K : Int32 → γ} (k : ∀ v, AW X Y lv emb ls pc (.int v :: st) σ ((some (K v)).bind G)) : AW X Y lv emb ls pc (.int v :: st) σ ((some (bnd v K)).bind G) := k v
theorem aw_bnd_long {v : Int64} {K : Int64 → Option γ} (k : ∀ v, AW X Y lv emb ls pc (.long v :: st) σ ((K v).bind G)) : AW X Y lv emb ls pc (.long v :: st) σ ((bnd v K).bind G) := k v
theorem aw_bndT_long {v : Int64} {K : Int64 → γ} (k : ∀ v, AW X Y lv emb ls pc (.long v :: st) σ ((some (K v)).bind G)) : AW X Y lv emb ls pc (.long v :: st) σ ((some (bnd v K)).bind G) := k v
theorem aw_bnd_bool {v : Bool} {K : Bool → Option γ} (k : ∀ v, AW X Y lv emb ls pc (.int (b2i v) :: st) σ ((K v).bind G)) : AW X Y lv emb ls pc (.int (b2i v) :: st) σ ((bnd v K).bind G) := k v
theorem aw_bndT_bool {v : Bool} {K : Bool → γ} (k : ∀ v, AW X Y lv emb ls pc (.int (b2i v) :: st) σ ((some (K v)).bind G)) : AW X Y lv emb ls pc (.int (b2i v) :: st) σ ((some (bnd v K)).bind G) := k v
/-- an instance number is looked at before it is used -/
def gd {γ : Type} (n v : Nat) (K : Nat → Option γ) : Option γ := if v < n then K v else none
theorem aw_gd {n d v : Nat} {K : Nat → Option γ} (k : ∀ t, t < n → AW X Y lv emb ls pc (.ref (X.2.2.2.2.1 d t 0) :: st) σ ((K t).bind G)) : AW X Y lv emb ls pc (.ref (X.2.2.2.2.1 d v 0) :: st) σ ((gd n v K).bind G) := by
  by_cases h : v < n
  · simp only [gd, h, if_true]; exact k v h
  · simp only [gd, h, if_false]; exact aw_none
theorem aw_case {x c : Int32} (kt : x = c → AW X Y lv emb ls pc (.int x :: st) σ (et.bind G)) (kf : ¬ x = c → AW X Y lv emb ls pc (.int x :: st) σ (ef.bind G)) : AW X Y lv emb ls pc (.int x :: st) σ ((if x = c then et else ef).bind G) := by
  by_cases h : x = c
  · simp only [h, if_true]; exact h ▸ kt h
  · simp only [h, if_false]; exact kf h
theorem aw_tabIn {dflt lo hi : Int} {offs : Array Int} {len : Nat} {x c : Int32} {off : Int} (tgt : Nat) (hx : x = c) (hdg : decode Y.2.1 pc = .ok (.tableswitch dflt lo hi offs, len)) (h1 : ¬ c.toInt < lo) (h2 : ¬ hi < c.toInt) (ho : offs[(c.toInt - lo).toNat]? = some off) (ht : (pc : Int) + off = (tgt : Int)) (k : AW X Y lv emb ls tgt st σ E) : AW X Y lv emb ls pc (.int x :: st) σ E :=
  fun r σ1 hE p e s m args below meth c H locs A L hc hL hP hD hS hA => by
    subst hx
    exact lv_tableIn hc.1 hc.2.1 hdg h1 h2 ho ht (k r σ1 hE p e s m args below meth c H locs A L hc hL hP hD hS hA)
theorem aw_tabOut {dflt lo hi : Int} {offs : Array Int} {len : Nat} {x : Int32} (tgt : Nat) (hdg : decode Y.2.1 pc = .ok (.tableswitch dflt lo hi offs, len)) (h : x.toInt < lo ∨ hi < x.toInt) (ht : (pc : Int) + dflt = (tgt : Int)) (k : AW X Y lv emb ls tgt st σ E) : AW X Y lv emb ls pc (.int x :: st) σ E :=
  fun r σ1 hE p e s m args below meth c H locs A L hc hL hP hD hS hA => lv_tableOut hc.1 hc.2.1 hdg h ht (k r σ1 hE p e s m args below meth c H locs A L hc hL hP hD hS hA)
theorem aw_lookup {dflt : Int} {ps : Array (Int × Int)} {len : Nat} {x : Int32} {off : Int} (tgt : Nat) (hdg : decode Y.2.1 pc = .ok (.lookupswitch dflt ps, len)) (hp : (ps.toList.zip (ps.toList.drop 1)).all (fun (a, next) => a.1 < next.1) = true) (ho : Op.lookupswitch.offset ps.toList dflt x.toInt = off) (ht : (pc : Int) + off = (tgt : Int)) (k : AW X Y lv emb ls tgt st σ E) : AW X Y lv emb ls pc (.int x :: st) σ E :=
  fun r σ1 hE p e s m args below meth c H locs A L hc hL hP hD hS hA => lv_lookup hc.1 hc.2.1 hdg hp ho ht (k r σ1 hE p e s m args below meth c H locs A L hc hL hP hD hS hA)
theorem ne_toInt {x c : Int32} (h : ¬ x = c) : x.toInt ≠ c.toInt := fun e => h (Int32.toInt_inj.mp e)
end AWR2
section AWRet
variable {X : Ctx} {Y : MD} {lv : Nat} {ls : List (Nat × Value)} {pc : Nat} {σ : Mem}
theorem aw_ireturn {v : Int32} (hr : Y.2.2.2 = some .int) (hdg : decode Y.2.1 pc = .ok (.ireturn, 1)) : AW X Y lv eI ls pc [.int v] σ (some (v, σ)) :=
  fun r σ1 hE p e s m args below meth c H locs A L hc hL hP hD hS hA => by
    cases hE
    exact W.iret hc.1 hc.2.1 (hc.2.2.2.2.2.2.1.trans hr) (fun t ht hW => ⟨⟨rfl, by rw [ht]; exact hP, va_K.moved hW.alike hc.2.2.2.2.2.1⟩, hS.F ht⟩) hS.2.2 hdg hc.2.2.2.2.2.2.2.1
theorem aw_zreturn {v : Int32} {b : Bool} (hv : v = b2i b) (hr : Y.2.2.2 = some .boolean) (hdg : decode Y.2.1 pc = .ok (.ireturn, 1)) : AW X Y lv eB ls pc [.int v] σ (some (b, σ)) :=
  fun r σ1 hE p e s m args below meth c H locs A L hc hL hP hD hS hA => by
    cases hE
    subst hv
    exact W.zret hc.1 hc.2.1 (hc.2.2.2.2.2.2.1.trans hr) (by cases b <;> decide) (fun t ht hW => ⟨⟨rfl, by rw [ht]; exact hP, va_K.moved hW.alike hc.2.2.2.2.2.1⟩, hS.F ht⟩) hS.2.2 hdg hc.2.2.2.2.2.2.2.1
theorem aw_lreturn {v : Int64} (hr : Y.2.2.2 = some .long) (hdg : decode Y.2.1 pc = .ok (.lreturn, 1)) : AW X Y lv eL ls pc [.long v] σ (some (v, σ)) :=
  fun r σ1 hE p e s m args below meth c H locs A L hc hL hP hD hS hA => by
    cases hE
    exact W.lret hc.1 hc.2.1 (hc.2.2.2.2.2.2.1.trans hr) (fun t ht hW => ⟨⟨rfl, by rw [ht]; exact hP, va_K.moved hW.alike hc.2.2.2.2.2.1⟩, hS.F ht⟩) hS.2.2 hdg hc.2.2.2.2.2.2.2.1
theorem aw_return {u : Unit} (hr : Y.2.2.2 = none) (hdg : decode Y.2.1 pc = .ok (.return_, 1)) : AW X Y lv eU ls pc [] σ (some (u, σ)) :=
  fun r σ1 hE p e s m args below meth c H locs A L hc hL hP hD hS hA => by
    cases hE
    exact W.vret hc.1 hc.2.1 (hc.2.2.2.2.2.2.1.trans hr) (fun t ht hW => ⟨⟨rfl, by rw [ht]; exact hP, va_K.moved hW.alike hc.2.2.2.2.2.1⟩, hS.F ht⟩) hS.2.2 hdg hc.2.2.2.2.2.2.2.1
end AWRet
