/-! THE CLAIM OUT OF ONE WALK OF THE LAW'S BODY. Your part is whole_start (and what it stands on); all else here is the same for every law, but numbers. -/
def R_law : String := "PeaTubeLaw"
def lw_P (b : Addr) (xs : List Int32) (args : Array Value) (s : State) : Prop := args = #[.ref b] ∧ s.IntsAt b xs ∧ xs.length ≤ 4608 ∧ (Jvm.Cond.and given_1 narrow_1).before args s = true
def lw_Q (_ : Array Value) (s : State) (o : Outcome) (t : State) : Prop := o = .returned (some (.int 1)) ∧ Framed s o t [] 600000 7302250
def lw_Z (below : List Frame) (a : Array Value) (s : State) : State → Prop := fun t => ∃ o, t.status = .running ∧ Ended t below o ∧ lw_Q a s o t
/-- the law's own end, with 1 on the stack, nothing written that was there before, its room as the claim has it -/
theorem lw_ret {p : Program} {l : Launch} {e : Env} {s : State} {m : MethodId} {below : List Frame} {meth : Method} {c : Code} {b : Nat} (hx : p.tables.exec = Jvm.exec) (hb : c.code = code) (hr : meth.sig.returnType = ret) (hlocks : meth.locks = false) {pc : Nat} {H : Heap} {ls : Array Slot} (hdg : decode code pc = .ok (.ireturn, 1)) : W p l e room_1 s m #[Value.ref b] below meth c H [] 600000 7302250 (lw_Z below #[Value.ref b] s) (F0 m pc ls [.int 1]) := by
  intro T hT X
  obtain ⟨fs, hret, hrun, hended, hW, hframe⟩ := X.leave (v := some (.int 1)) (hlocks := hlocks) (fun h => by rw [hr] at h; cases h)
  have hmeth' : T.vm.method? m = some meth := X.method'
  refine ⟨T.setFrames fs, ?_, .returned (some (.int 1)), hrun, hended, rfl, ⟨_, rfl⟩, hW, hframe⟩
  jvm_step X.here [X.here.top, hx, hb, hdg, hmeth', hr, ret, narrow_b1]
  (try refine ⟨rfl, ?_⟩); (try refine ⟨rfl, ?_⟩)
  first | (intro acts; rw [hret _ acts rfl rfl rfl]) | rw [hret _ _ rfl rfl rfl]
  exact Steps.refl _
/-- what holds at the law's entry: the machine, the code, the tables' words (any of lw_tbl by 'hts w (by decide +kernel)'), the script of L ints xs at the cell b, what the Statement gives of the start (any of its parts by flat_of_before) -/
def lw_At (p : Program) (s : State) (m : MethodId) (meth : Method) (c : Code) (b L : Nat) (xs : Nat → Int32) : Prop :=
  p.tables.exec = Jvm.exec ∧ c.code = code ∧ meth.sig.returnType = ret ∧ c.maxLocals = 4 ∧ s.vm.findClass R_law = some m.cls ∧ (∀ w ∈ lw_tbl, w.before #[Value.ref b] s = true) ∧ va_X b L xs s s.heap ∧ b < s.heap.size ∧ meth.locks = false ∧ (Jvm.Cond.and given_1 narrow_1).before #[Value.ref b] s = true

/-! the law's walk: two worlds side by side -/
abbrev lwA (s : State) : Nat → Prop := fun q => s.heap.size ≤ q
def LF (p : Program) (s : State) (m : MethodId) (meth : Method) (c : Code) (D : va_G) (ad : Nat → Nat → Nat → Nat) (cid : Nat → Nat → Nat → ClassId) (b L : Nat) (xs : Nat → Int32) : Prop :=
  lw_At p s m meth c b L xs ∧ L ≤ 4608 ∧ va_K D vwCl (tysC cid) s ∧ va_K D vwCl (tysM cid) s ∧ NW s ∧ ∀ σC σM : Mem, va_D (lwA s) (wd (keysC, ad, shC ad cid) σC ++ wd (keysM, ad, shM ad cid) σM)
def LJ (p : Program) (l : Launch) (e : Env) (s : State) (m : MethodId) (below : List Frame) (meth : Method) (c : Code) (D : va_G) (ad : Nat → Nat → Nat → Nat) (cid : Nat → Nat → Nat → ClassId) (b nc ns : Nat) (ls : List (Nat × Value)) (pc : Nat) (st : List Value) (σC σM : Mem) : Prop :=
  ∀ (H : Heap) (Ls : Array Slot), lv_has Ls 4 ls → va_P D vwCl (wd (keysC, ad, shC ad cid) σC) H → va_P D vwCl (wd (keysM, ad, shM ad cid) σM) H → va_S (lwA s) s.heap H [] →
    W p l e room_1 s m #[Value.ref b] below meth c H [] nc ns (lw_Z below #[Value.ref b] s) (F0 m pc Ls st)
abbrev lsL (ad : Nat → Nat → Nat → Nat) (b i : Nat) : List (Nat × Value) := [(0, .ref b), (1, .ref (ad 11 0 0)), (2, .ref (ad 12 0 0)), (3, .int (nI i))]
theorem va_D_left {A : Nat → Prop} {w1 w2 : va_W} (h : va_D A (w1 ++ w2)) : va_D A w1 := by
  have lt : ∀ {i : Nat} {p : Nat × va_E}, w1[i]? = some p → (w1 ++ w2)[i]? = some p := fun {i p} hp => by
    rw [List.getElem?_append_left (List.getElem?_eq_some_iff.mp hp).1]; exact hp
  exact ⟨fun i j p q hp hq e => h.1 i j p q (lt hp) (lt hq) e, fun k q hq => h.2 k q (lt hq)⟩
theorem va_D_right {A : Nat → Prop} {w1 w2 : va_W} (h : va_D A (w1 ++ w2)) : va_D A w2 := by
  have lt : ∀ {i : Nat} {p : Nat × va_E}, w2[i]? = some p → (w1 ++ w2)[w1.length + i]? = some p := fun {i p} hp => by
    rw [List.getElem?_append_right (Nat.le_add_right _ _), Nat.add_sub_cancel_left]; exact hp
  exact ⟨fun i j p q hp hq e => Nat.add_left_cancel (h.1 _ _ p q (lt hp) (lt hq) e), fun k q hq => h.2 _ q (lt hq)⟩
theorem va_D_apart {A : Nat → Prop} {w1 w2 : va_W} (h : va_D A (w1 ++ w2)) (i j : Nat) (p q : Nat × va_E) (hp : w1[i]? = some p) (hq : w2[j]? = some q) : p.1 ≠ q.1 := fun e => by
  have hl := (List.getElem?_eq_some_iff.mp hp).1
  have := h.1 i (w1.length + j) p q (by rw [List.getElem?_append_left hl]; exact hp) (by rw [List.getElem?_append_right (Nat.le_add_right _ _), Nat.add_sub_cancel_left]; exact hq) e
  omega
/-- a call, with another world beside it -/
theorem lw_run {p : Program} {l : Launch} {e : Env} {R : Room} {s : State} {m : MethodId} {args : Array Value} {below : List Frame} {meth : Method} {c : Code} {H : Heap} {Q : State → Prop} {X : Ctx} {rv : Option Value} {σ σ1 : Mem} {L : Array Slot} {pc nc ns : Nat} {aa : Array Value} {st0 rest : List Value} {wf : va_W}
    (hr : va_Run p l e R s m args below meth c H [] nc ns 0 0 (F0 m pc L st0) rest (qQ X rv σ1 (va_A (wd X.2.2.2 σ) H.size) aa) (va_A (wd X.2.2.2 σ) H.size))
    (hD : va_D (lwA s) (wd X.2.2.2 σ)) (hdis : ∀ (i j : Nat) (x q : Nat × va_E), (wd X.2.2.2 σ)[i]? = some x → wf[j]? = some q → x.1 ≠ q.1) (hF : va_P X.2.1 vwCl wf H) (hS : va_S (lwA s) s.heap H [])
    (kk : ∀ H1 : Heap, va_P X.2.1 vwCl (wd X.2.2.2 σ1) H1 → va_P X.2.1 vwCl wf H1 → va_S (lwA s) s.heap H1 [] → W p l e R s m args below meth c H1 [] nc ns Q (F0 m (pc + 3) L (rv.toList ++ rest))) : W p l e R s m args below meth c H [] nc ns Q (F0 m pc L st0) := by
  have hfr : ∀ q, va_A (wd X.2.2.2 σ) H.size q → lwA s q := fun q h => by
    rcases h with ⟨k, e, hk⟩ | h
    · exact hD.2 k _ hk
    · exact Nat.le_trans hS.1 h
  intro T hT X0
  obtain ⟨v, st₀, t, T', LL, h0, X', hL, e1, e2, ⟨⟨hv, hp, hk⟩, hz, hkeep⟩, sst⟩ := hr T hT X0
  cases hv
  rw [h0] at hz hkeep
  have hl : ∀ q ∈ LL, s.heap.size ≤ q.base := fun q hq => hfr _ (hL q hq)
  obtain ⟨t2, a1, b1⟩ := va_forget (locs := LL) hl (kk T'.heap (by rw [e1]; exact hp) (hF.kept fun k q hq => by
      rw [e1]
      refine hkeep q.1 (hF k q hq).lt fun z => ?_
      rcases z with ⟨j, x, hj⟩ | z
      · exact hdis j k _ _ hj hq rfl
      · have := (hF k q hq).lt; omega)
    ⟨Nat.le_trans hS.1 (by rw [e1]; exact hz), fun q h1 h2 => by rw [e1, hkeep q (Nat.lt_of_lt_of_le h1 hS.1) (fun z => h2 (hfr q z))]; exact hS.2.1 q h1 h2, fun q hq => by cases hq⟩) T' rfl X'
  exact ⟨t2, sst t2 a1, b1⟩
theorem rm_law {lv k : Nat} (h : lv < 25) (hk : k ≤ 80) : (rmL lv).frames + 1 ≤ room_1.frames ∧ 8 + (k + 11) + (rmL lv).locals ≤ room_1.locals := by
  simp only [rmL, room_1]
  constructor <;> omega
section LWR
variable {p : Program} {l : Launch} {e : Env} {s : State} {m : MethodId} {below : List Frame} {meth : Method} {c : Code} {D : va_G} {ad : Nat → Nat → Nat → Nat} {cid : Nat → Nat → Nat → ClassId} {b L : Nat} {xs : Nat → Int32} {nc ns : Nat} {ls : List (Nat × Value)} {pc : Nat} {st : List Value} {σC σM : Mem}
theorem lw_aload {i x : Nat} {j : Fin 4} (q : Nat) (F : LF p s m meth c D ad cid b L xs) (hdg : decode code pc = .ok (.aload_n j, 1)) (hi : (j : Nat) = i) (hl : ls[q]? = some (i, .ref x)) (k : LJ p l e s m below meth c D ad cid b nc ns ls (pc + 1) (.ref x :: st) σC σM) : LJ p l e s m below meth c D ad cid b nc ns ls pc st σC σM :=
  fun H Ls hL hC hM hS => lv_aload_n F.1.1 F.1.2.1 hdg hi (lv_at hL q hl) (k H Ls hL hC hM hS)
theorem lw_sld {i : Nat} {v : Int32} (hv : v = nI i) (hi : i < L) (F : LF p s m meth c D ad cid b L xs) (hdg : decode code pc = .ok (.iaload, 1)) (k : LJ p l e s m below meth c D ad cid b nc ns ls (pc + 1) (.int (xs i) :: st) σC σM) : LJ p l e s m below meth c D ad cid b nc ns ls pc (.int v :: .ref b :: st) σC σM :=
  fun H Ls hL hC hM hS => by
    have hb : i < 2 ^ 31 := by have := F.2.1; omega
    have h0 := k H Ls hL hC hM hS
    rw [← nI_clamp hb, ← hv] at h0
    exact va_sld F.1.1 F.1.2.1 F.1.2.2.2.2.2.2.1 F.1.2.2.2.2.2.2.2.1 (Nat.not_le.mpr F.1.2.2.2.2.2.2.2.1) hS (by rw [hv]; exact vp_in_nI hi (by have := F.2.1; omega)) hdg h0
theorem lw_argC {n : Int} {i k : Nat} (F : LF p s m meth c D ad cid b L xs) (h0 : decode code pc = .ok (.aload_n 0, 1)) (h1 : decode code (pc + 1) = .ok (.iload_n 3, 1)) (h2 : decode code (pc + 2) = .ok (.iconst n, 1)) (h3 : decode code (pc + 3) = .ok (.iadd, 1)) (h4 : decode code (pc + 4) = .ok (.iaload, 1)) (hn : Int32.ofInt n = nI k) (hk : i + k < L)
    (kk : LJ p l e s m below meth c D ad cid b nc ns (lsL ad b i) (pc + 5) (.int (xs (i + k)) :: st) σC σM) : LJ p l e s m below meth c D ad cid b nc ns (lsL ad b i) pc st σC σM :=
  fun H Ls hL hC hM hS => lv_aload_n F.1.1 F.1.2.1 h0 rfl (lv_at hL 0 rfl) (lv_iload_n F.1.1 F.1.2.1 h1 rfl (lv_at hL 3 rfl) (lv_iconst F.1.1 F.1.2.1 h2 hn (lv_iadd F.1.1 F.1.2.1 h3 (lw_sld (nI_add i k) hk F h4 kk H Ls hL hC hM hS))))
theorem lw_argB {n : Int} {i k : Nat} (F : LF p s m meth c D ad cid b L xs) (h0 : decode code pc = .ok (.aload_n 0, 1)) (h1 : decode code (pc + 1) = .ok (.iload_n 3, 1)) (h2 : decode code (pc + 2) = .ok (.bipush n, 2)) (h3 : decode code (pc + 4) = .ok (.iadd, 1)) (h4 : decode code (pc + 5) = .ok (.iaload, 1)) (hn : (Int8.ofInt n).toInt32 = nI k) (hk : i + k < L)
    (kk : LJ p l e s m below meth c D ad cid b nc ns (lsL ad b i) (pc + 6) (.int (xs (i + k)) :: st) σC σM) : LJ p l e s m below meth c D ad cid b nc ns (lsL ad b i) pc st σC σM :=
  fun H Ls hL hC hM hS => lv_aload_n F.1.1 F.1.2.1 h0 rfl (lv_at hL 0 rfl) (lv_iload_n F.1.1 F.1.2.1 h1 rfl (lv_at hL 3 rfl) (lv_bipush F.1.1 F.1.2.1 h2 hn (lv_iadd F.1.1 F.1.2.1 h3 (lw_sld (nI_add i k) hk F h4 kk H Ls hL hC hM hS))))
/-- two ints make a long -/
theorem lw_two {x y : Int32} {i : Nat} {k : Nat} {v : Int32} (F : LF p s m meth c D ad cid b L xs) (hk : i + k < L) (hw : Cond.constantLong R_law 32 4294967295 ∈ Gw) (hn : Int32.ofInt 4 = nI k) (hv : (Int8.ofInt 32).toInt32 = v)
    (h0 : decode code pc = .ok (.i2l, 1)) (h1 : decode code (pc + 1) = .ok (.bipush 32, 2)) (h2 : decode code (pc + 3) = .ok (.lshl, 1)) (h3 : decode code (pc + 4) = .ok (.aload_n 0, 1)) (h4 : decode code (pc + 5) = .ok (.iload_n 3, 1)) (h5 : decode code (pc + 6) = .ok (.iconst 4, 1)) (h6 : decode code (pc + 7) = .ok (.iadd, 1)) (h7 : decode code (pc + 8) = .ok (.iaload, 1))
    (h8 : decode code (pc + 9) = .ok (.i2l, 1)) (h9 : decode code (pc + 10) = .ok (.ldc2_w 32, 3)) (h10 : decode code (pc + 13) = .ok (.land, 1)) (h11 : decode code (pc + 14) = .ok (.lor, 1))
    (kk : LJ p l e s m below meth c D ad cid b nc ns (lsL ad b i) (pc + 15) (.long ((x.toInt64 <<< (v.toInt64 &&& 63)) ||| ((xs (i + k)).toInt64 &&& 4294967295)) :: st) σC σM) : LJ p l e s m below meth c D ad cid b nc ns (lsL ad b i) pc (.int x :: st) σC σM :=
  fun H Ls hL hC hM hS => lv_i2l F.1.1 F.1.2.1 h0 rfl (lv_bipush F.1.1 F.1.2.1 h1 hv (lv_lshl F.1.1 F.1.2.1 h2 rfl (lw_argC (pc := pc + 4) F h3 h4 h5 h6 h7 hn hk (fun H Ls hL hC hM hS => lv_i2l F.1.1 F.1.2.1 h8 rfl (lv_ldc2 F.1.1 F.1.2.1 F.1.2.2.2.2.1 (F.1.2.2.2.2.2.1 _ (List.mem_filter.mp hw).1) h9 (lv_land F.1.1 F.1.2.1 h10 (lv_lor F.1.1 F.1.2.1 h11 (kk H Ls hL hC hM hS))))) H Ls hL hC hM hS)))
theorem lw_callC {Y' : MD} {lv' n idx : Nat} {v : Value} {As rest : List Value} {σC' : Mem} (F : LF p s m meth c D ad cid b L xs) (hM : AM (XC l D ad cid) Y' lv' (.ref (ad 11 0 0) :: As) σC (some v) σC') (hcl : Y'.1.cls = RX11) (hlv : lv' < 25) (hok : MOK Y' n)
    (hin : Cond.instanceMethod Y'.1 ∈ Gw) (hse : Cond.selects Y'.1.cls Y'.1 Y'.1 ∈ Gw) (hli : Cond.methodLink R_law idx Y'.1 ∈ Gw) (hn : As.length = n) (hst : st = As.reverse ++ .ref (ad 11 0 0) :: rest) (hro : (rest.map fun v => v.category).sum ≤ 8) (hdg : decode code pc = .ok (.invokevirtual idx, 3))
    (k : LJ p l e s m below meth c D ad cid b nc ns ls (pc + 3) (v :: rest) σC' σM) (hroom : nc ≤ 600000 ∧ ns ≤ 7302250) : LJ p l e s m below meth c D ad cid b nc ns ls pc st σC σM :=
  fun H Ls hL hC hMM hS => by
    obtain ⟨⟨hx, hb, hr, hml, hown, hts0, hX, hbl, hlocks, hgv⟩, hLL, hK, hKM, hNW, hD⟩ := F
    have hts : ∀ w ∈ Gw, w.before #[Value.ref b] s = true := fun w hw => hts0 w (List.mem_filter.mp hw).1
    obtain ⟨q0, -, hq0⟩ := wd_at (σ := σC) (io_11 (l := l) (D := D) (ad := ad) (cid := cid) (t := 0) (by decide)).1.1
    have hcB : CallW room_1 s #[Value.ref b] R_law Y'.1.cls idx Y'.1 Y'.2.1 Y'.2.2.1 Y'.2.2.2 (wsY Y') (rmL lv') 0 0 n :=
      ⟨callB_of n hts (good_ws hok) rfl rfl rfl (hts _ hok.2.1) (hts _ hli) hok.2.2.1 (rm_law hlv hok.2.2.2), hts _ hin, hts _ hse⟩
    have hDC := va_D_left (hD σC σM)
    have hrecv := va_recv (q := (RX11, TX11, 20)) (ci := 11) hK hC rfl hq0
    rw [show (RX11, TX11, 20).1 = Y'.1.cls from hcl.symm] at hrecv
    refine lw_run (X := XC l D ad cid) (σ := σC) (σ1 := σC') (rv := some v) (wf := wd (keysM, ad, shM ad cid) σM) (va_runV (As := As) (rest := rest) ⟨hx, hb, hml, hown, hts⟩ (hM H.size) hcB ⟨am_blind, hrecv, fun U hU hW => ⟨rfl, by rw [hU], by rw [hU]; exact hC, va_K.moved hW.alike hK, hDC.weaken (fun _ _ _ _ => trivial), NW.warm hW hNW⟩⟩ rfl hn hL.1 hst (lv_room hro) hdg hroom) hDC (fun i j x q hx hq => va_D_apart (hD σC σM) i j x q hx hq) hMM hS (fun H1 h1 h2 hS1 => k H1 Ls hL h1 h2 hS1)
theorem lw_callM {Y' : MD} {lv' n idx : Nat} {v : Value} {As rest : List Value} {σM' : Mem} (F : LF p s m meth c D ad cid b L xs) (hM : AM (XM l D ad cid) Y' lv' (.ref (ad 12 0 0) :: As) σM (some v) σM') (hcl : Y'.1.cls = RX12) (hlv : lv' < 25) (hok : MOK Y' n)
    (hin : Cond.instanceMethod Y'.1 ∈ Gw) (hse : Cond.selects Y'.1.cls Y'.1 Y'.1 ∈ Gw) (hli : Cond.methodLink R_law idx Y'.1 ∈ Gw) (hn : As.length = n) (hst : st = As.reverse ++ .ref (ad 12 0 0) :: rest) (hro : (rest.map fun v => v.category).sum ≤ 8) (hdg : decode code pc = .ok (.invokevirtual idx, 3))
    (k : LJ p l e s m below meth c D ad cid b nc ns ls (pc + 3) (v :: rest) σC σM') (hroom : nc ≤ 600000 ∧ ns ≤ 7302250) : LJ p l e s m below meth c D ad cid b nc ns ls pc st σC σM :=
  fun H Ls hL hC hMM hS => by
    obtain ⟨⟨hx, hb, hr, hml, hown, hts0, hX, hbl, hlocks, hgv⟩, hLL, hKC, hK, hNW, hD⟩ := F
    have hts : ∀ w ∈ Gw, w.before #[Value.ref b] s = true := fun w hw => hts0 w (List.mem_filter.mp hw).1
    obtain ⟨q0, -, hq0⟩ := wd_at (σ := σM) (io_12 (l := l) (D := D) (ad := ad) (cid := cid) (t := 0) (by decide)).1.1
    have hcB : CallW room_1 s #[Value.ref b] R_law Y'.1.cls idx Y'.1 Y'.2.1 Y'.2.2.1 Y'.2.2.2 (wsY Y') (rmL lv') 0 0 n :=
      ⟨callB_of n hts (good_ws hok) rfl rfl rfl (hts _ hok.2.1) (hts _ hli) hok.2.2.1 (rm_law hlv hok.2.2.2), hts _ hin, hts _ hse⟩
    have hDM := va_D_right (hD σC σM)
    have hrecv := va_recv (q := (RX12, TX12, 61)) (ci := 12) hK hMM rfl hq0
    rw [show (RX12, TX12, 61).1 = Y'.1.cls from hcl.symm] at hrecv
    refine lw_run (X := XM l D ad cid) (σ := σM) (σ1 := σM') (rv := some v) (wf := wd (keysC, ad, shC ad cid) σC) (va_runV (As := As) (rest := rest) ⟨hx, hb, hml, hown, hts⟩ (hM H.size) hcB ⟨am_blind, hrecv, fun U hU hW => ⟨rfl, by rw [hU], by rw [hU]; exact hMM, va_K.moved hW.alike hK, hDM.weaken (fun _ _ _ _ => trivial), NW.warm hW hNW⟩⟩ rfl hn hL.1 hst (lv_room hro) hdg hroom) hDM (fun i j x q hx hq e => va_D_apart (hD σC σM) j i q x hq hx e.symm) hC hS (fun H1 h1 h2 hS1 => k H1 Ls hL h2 h1 hS1)
theorem lw_eqI {x : Int32} {off : Int} {tgt : Nat} (F : LF p s m meth c D ad cid b L xs) (hdg : decode code pc = .ok (.if_icmp .eq off, 3)) (ht : (pc : Int) + off = (tgt : Int)) (k : LJ p l e s m below meth c D ad cid b nc ns ls tgt st σC σM) : LJ p l e s m below meth c D ad cid b nc ns ls pc (.int x :: .int x :: st) σC σM :=
  fun H Ls hL hC hM hS => lv_icmp_eq F.1.1 F.1.2.1 hdg ht (fun _ => k H Ls hL hC hM hS) (fun h => absurd rfl h)
theorem lw_eqL {x : Int64} {off : Int} {tgt : Nat} (F : LF p s m meth c D ad cid b L xs) (h0 : decode code pc = .ok (.lcmp, 1)) (hdg : decode code (pc + 1) = .ok (.ifCond .eq off, 3)) (ht : ((pc + 1 : Nat) : Int) + off = (tgt : Int)) (k : LJ p l e s m below meth c D ad cid b nc ns ls tgt st σC σM) : LJ p l e s m below meth c D ad cid b nc ns ls pc (.long x :: .long x :: st) σC σM :=
  fun H Ls hL hC hM hS => W.lcmp F.1.1 F.1.2.1 h0 (lv_if_eq F.1.1 F.1.2.1 hdg ht (fun _ => k H Ls hL hC hM hS) (fun h => absurd ((lg_cmp_eq x x).mpr rfl) h))
end LWR
