/-! the JDK's methods on the one string constant: nothing is written -/
def SPv (adK adV : Nat → Nat) (fm : Value) (U : State) (H : Heap) : Prop := vk_S 1 [157] [wordB] adK adV (fun _ => False) U H ∧
  va_Z "java/lang/String" "COMPACT_STRINGS" "Z" (.int 1) (fun _ => False) U H ∧ va_Z "jdk/internal/util/Preconditions" "SIOOBE_FORMATTER" "Ljava/util/function/BiFunction;" fm (fun _ => False) U H
theorem SPv.moved {adK adV : Nat → Nat} {fm : Value} {s U : State} {H : Heap} (hv : s.vm.Alike U.vm) (h : SPv adK adV fm s H) : SPv adK adV fm U H := ⟨h.1.moved hv, h.2.1.moved hv, h.2.2.moved hv⟩
abbrev qJ (rv : Option Value) : Array Value → State → Outcome → State → Prop := fun _ st oc t => oc = .returned rv ∧ t.heap = st.heap
def JM (l : Launch) (Y : MD) (lv : Nat) (adK adV : Nat → Nat) (fm : Value) (av : List Value) (rv : Option Value) : Prop :=
  Met l Y.1 (wsY Y) (rmL lv) (va_Pc av (fun U => SPv adK adV fm U U.heap)) (qJ rv) 0 0 (fun _ => False)
def CX3 (Y : MD) (p : Program) (s : State) (m : MethodId) (args : Array Value) (meth : Method) (c : Code) : Prop :=
  p.tables.exec = Jvm.exec ∧ c.code = Y.2.1 ∧ c.maxLocals = Y.2.2.1 ∧ s.vm.findClass Y.1.cls = some m.cls ∧ (∀ w ∈ Gw, w.before args s = true) ∧ meth.sig.returnType = Y.2.2.2 ∧ meth.locks = false
def JW (l : Launch) (Y : MD) (lv : Nat) (adK adV : Nat → Nat) (fm : Value) (rv : Option Value) (ls : List (Nat × Value)) (pc : Nat) (st : List Value) : Prop :=
  ∀ (p : Program) (e : Env) (s : State) (m : MethodId) (args : Array Value) (below : List Frame) (meth : Method) (c : Code) (L : Array Slot), CX3 Y p s m args meth c → lv_has L Y.2.2.1 ls → SPv adK adV fm s s.heap →
    W p l e (rmL lv) s m args below meth c s.heap [] 0 0 (MQ below (qJ rv) args s 0 0 (fun _ => False)) (F0 m pc L st)
theorem JM.ofW {l : Launch} {Y : MD} {lv : Nat} {adK adV : Nat → Nat} {fm : Value} {av : List Value} {rv : Option Value} {ls : List (Nat × Value)} (hy : plainName Y.1.cls = true) (hn : (lg_sl av).length ≤ Y.2.2.1) (hls : lv_args 0 av = ls)
    (k : JW l Y lv adK adV fm rv ls 0 []) : JM l Y lv adK adV fm av rv := by
  refine Met.ofW (cc := Y.2.1) (maxL := Y.2.2.1) (ret := Y.2.2.2) hy rfl ?_
  intro p e s m args' below meth c s₁ B hml hv
  obtain ⟨rfl, hS⟩ := hv
  have hts := atoms_spec (ws := wsY Y) B.pre
  rw [lg_entry_eq]
  exact k p e s m _ below meth c _ ⟨B.exec, B.bytes, hml, findClass_of_methodNamed B.named, fun w hw => hts w (List.mem_cons_of_mem _ hw), B.returns, B.notSynchronized⟩ (hls ▸ lv_entry av hn) hS
theorem jm_blind {av : List Value} {adK adV : Nat → Nat} {fm : Value} : FrameBlind (va_Pc av (fun U => SPv adK adV fm U U.heap)) :=
  fun a U g mk q => ⟨q.1, SPv.moved (s := U) (U := U.calling g mk a) (Vm.Alike.refl U.vm) q.2⟩
theorem jm_run {l : Launch} {R : Room} {p : Program} {e : Env} {s : State} {m : MethodId} {args : Array Value} {below : List Frame} {meth : Method} {c : Code} {H : Heap} {locs : List Loc} {L : Array Slot} {Q : State → Prop} {pc nc ns : Nat} {st0 rest : List Value} {rv : Option Value} {aa : Array Value}
    (hr : va_Run p l e R s m args below meth c H locs nc ns 0 0 (F0 m pc L st0) rest (qJ rv aa) (fun _ => False))
    (kk : W p l e R s m args below meth c H locs nc ns Q (F0 m (pc + 3) L (rv.toList ++ rest))) : W p l e R s m args below meth c H locs nc ns Q (F0 m pc L st0) := by
  intro T hT X0
  obtain ⟨v, st₀, t, T', LL, h0, X', hL, e1, e2, ⟨hv, hh⟩, sst⟩ := hr T hT X0
  cases hv
  have hLL : LL = [] := List.eq_nil_iff_forall_not_mem.mpr (fun q hq => hL q hq)
  subst hLL
  rw [List.append_nil] at X'
  obtain ⟨t2, a1, b1⟩ := kk T' (by rw [e1, hh, h0]) X'
  exact ⟨t2, sst t2 a1, b1⟩
section JWR
variable {l : Launch} {Y Y' : MD} {lv lv' : Nat} {adK adV : Nat → Nat} {fm : Value} {rv rv' : Option Value} {ls : List (Nat × Value)} {pc idx n : Nat} {st st0 As : List Value}
theorem jw_callV (hM : JM l Y' lv' adK adV fm (.ref (adK 0) :: As) rv') (hcl : Y'.1.cls = "java/lang/String") (hlv : lv' < lv) (hok : MOK Y' n) (hin : Cond.instanceMethod Y'.1 ∈ Gw) (hse : Cond.selects Y'.1.cls Y'.1 Y'.1 ∈ Gw) (hli : Cond.methodLink Y.1.cls idx Y'.1 ∈ Gw) (hn : As.length = n) (hst : st0 = As.reverse ++ .ref (adK 0) :: st) (hro : (st.map fun v => v.category).sum ≤ 8) (hdg : decode Y.2.1 pc = .ok (.invokevirtual idx, 3))
    (k : JW l Y lv adK adV fm rv ls (pc + 3) (rv'.toList ++ st)) : JW l Y lv adK adV fm rv ls pc st0 :=
  fun p e s m args below meth c L hc hL hS => by
    obtain ⟨hx, hb, hml, hown, hts, hrt, hlk⟩ := hc
    exact jm_run (va_runV (As := As) (rest := st) ⟨hx, hb, hml, hown, hts⟩ hM ⟨callB_of n hts (good_ws hok) rfl rfl rfl (hts _ hok.2.1) (hts _ hli) hok.2.2.1 (rm_ok hlv hok.2.2.2), hts _ hin, hts _ hse⟩ ⟨jm_blind, by rw [hcl]; exact vk_recv hS.1 (by decide) va_S.rf, fun U hU hW => ⟨rfl, (show SPv adK adV fm U U.heap by rw [hU]; exact hS.moved hW.alike)⟩⟩ rfl hn hL.1 hst (lv_room hro) hdg ⟨Nat.zero_le _, Nat.zero_le _⟩) (k p e s m args below meth c L ⟨hx, hb, hml, hown, hts, hrt, hlk⟩ hL hS)
theorem jw_callS (hM : JM l Y' lv' adK adV fm As rv') (hlv : lv' < lv) (hok : MOK Y' n) (hsta : Cond.static Y'.1 ∈ Gw) (hli : Cond.methodLink Y.1.cls idx Y'.1 ∈ Gw) (hn : As.length = n) (hst : st0 = As.reverse ++ st) (hro : (st.map fun v => v.category).sum ≤ 8) (hdg : decode Y.2.1 pc = .ok (.invokestatic idx, 3))
    (k : JW l Y lv adK adV fm rv ls (pc + 3) (rv'.toList ++ st)) : JW l Y lv adK adV fm rv ls pc st0 :=
  fun p e s m args below meth c L hc hL hS => by
    obtain ⟨hx, hb, hml, hown, hts, hrt, hlk⟩ := hc
    exact jm_run (va_runS (As := As) (rest := st) ⟨hx, hb, hml, hown, hts⟩ hM ⟨callB_of n hts (good_ws hok) rfl rfl rfl (hts _ hok.2.1) (hts _ hli) hok.2.2.1 (rm_ok hlv hok.2.2.2), hts _ hsta⟩ ⟨jm_blind, fun U hU hW => ⟨rfl, (show SPv adK adV fm U U.heap by rw [hU]; exact hS.moved hW.alike)⟩⟩ rfl hn hL.1 hst (lv_room hro) hdg ⟨Nat.zero_le _, Nat.zero_le _⟩) (k p e s m args below meth c L ⟨hx, hb, hml, hown, hts, hrt, hlk⟩ hL hS)
end JWR
section JDK
variable {l : Launch} {adK adV : Nat → Nat} {fm : Value}
theorem j_coder : JM l MJ_coder 0 adK adV fm [.ref (adK 0)] (some (.int 0)) := by
  refine JM.ofW (by decide +kernel) (Nat.le_of_ble_eq_true rfl) (ls := [(0, .ref (adK 0))]) rfl ?_
  intro p e s m args below meth c L ⟨hx, hb, hml, hown, hts, hrt, hlk⟩ hL hS
  refine va_gets hx hb hS.2.1 va_S.rf hown (hts _ w_207) (fun _ h => h) dJ0_coder_7d493_0 ?_
  refine lv_if_eq (tgt := 13) hx hb dJ0_coder_7d493_3 rfl (fun h => absurd h (by decide)) (fun _ => ?_)
  refine lv_aload_n hx hb dJ0_coder_7d493_6 rfl (lv_at hL 0 rfl) ?_
  refine vk_getf hx hb (hS.1.1 0 (by decide)).2.1 va_S.rf hown (hts _ w_2244) (fun _ h => h) dJ0_coder_7d493_7 ?_
  refine lv_goto (tgt := 14) hx hb dJ0_coder_7d493_10 rfl ?_
  exact W.zret hx hb hrt rfl (fun t ht hW => ⟨rfl, ht⟩) (fun q hq => by cases hq) dJ0_coder_7d493_14 hlk
theorem j_isLatin1 : JM l MJ_isLatin1 0 adK adV fm [.ref (adK 0)] (some (.int 1)) := by
  refine JM.ofW (by decide +kernel) (Nat.le_of_ble_eq_true rfl) (ls := [(0, .ref (adK 0))]) rfl ?_
  intro p e s m args below meth c L ⟨hx, hb, hml, hown, hts, hrt, hlk⟩ hL hS
  refine va_gets hx hb hS.2.1 va_S.rf hown (hts _ w_207) (fun _ h => h) dJ0_isLatin1_aae02_0 ?_
  refine lv_if_eq (tgt := 17) hx hb dJ0_isLatin1_aae02_3 rfl (fun h => absurd h (by decide)) (fun _ => ?_)
  refine lv_aload_n hx hb dJ0_isLatin1_aae02_6 rfl (lv_at hL 0 rfl) ?_
  refine vk_getf hx hb (hS.1.1 0 (by decide)).2.1 va_S.rf hown (hts _ w_2244) (fun _ h => h) dJ0_isLatin1_aae02_7 ?_
  refine lv_if_ne (tgt := 17) hx hb dJ0_isLatin1_aae02_10 rfl (fun h => absurd rfl h) (fun _ => ?_)
  refine lv_iconst (v := 1) hx hb dJ0_isLatin1_aae02_13 (by decide) ?_
  refine lv_goto (tgt := 18) hx hb dJ0_isLatin1_aae02_14 rfl ?_
  exact W.zret hx hb hrt (by decide) (fun t ht hW => ⟨rfl, ht⟩) (fun q hq => by cases hq) dJ0_isLatin1_aae02_18 hlk
theorem j_length : JM l MJ_length 1 adK adV fm [.ref (adK 0)] (some (.int 157)) := by
  refine JM.ofW (by decide +kernel) (Nat.le_of_ble_eq_true rfl) (ls := [(0, .ref (adK 0))]) rfl ?_
  intro p e s m args below meth c L ⟨hx, hb, hml, hown, hts, hrt, hlk⟩ hL hS
  refine lv_aload_n hx hb dJ0_length_8abf5_0 rfl (lv_at hL 0 rfl) ?_
  refine vk_getf hx hb (hS.1.1 0 (by decide)).2.2.1 va_S.rf hown (hts _ w_2243) (fun _ h => h) dJ0_length_8abf5_1 ?_
  refine va_tlen (v := 157) hx hb (hS.1.1 0 (by decide)).2.2.2 va_S.rf rfl dJ0_length_8abf5_4 ?_
  refine lv_aload_n hx hb dJ0_length_8abf5_5 rfl (lv_at hL 0 rfl) ?_
  refine (jw_callV (Y := MJ_length) (lv := 1) (As := []) (st := [.int 157]) (rv := some (.int 157)) (ls := [(0, .ref (adK 0))]) j_coder rfl (by decide) mk_J_coder w_204 w_205 w_203 rfl rfl (Nat.le_of_ble_eq_true rfl) dJ0_length_8abf5_6 ?_) p e s m args below meth c L ⟨hx, hb, hml, hown, hts, hrt, hlk⟩ hL hS
  intro p e s m args below meth c L ⟨hx, hb, hml, hown, hts, hrt, hlk⟩ hL hS
  refine lv_ishr hx hb dJ0_length_8abf5_9 ?_
  exact W.iret hx hb hrt (fun t ht hW => ⟨rfl, ht⟩) (fun q hq => by cases hq) dJ0_length_8abf5_10 hlk
theorem j_pCheck (hf : fm = .null ∨ ∃ t : Nat, fm = .ref t) {k : Nat} (hk : k < 157) : JM l MJ_pCheck 0 adK adV fm [.int (nI k), .int 157, fm] (some (.int (nI k))) := by
  rcases hf with rfl | ⟨t0, rfl⟩
  · refine JM.ofW (by decide +kernel) (Nat.le_of_ble_eq_true rfl) (ls := [(0, .int (nI k)), (1, .int 157), (2, .null)]) rfl ?_
    intro p e s m args below meth c L ⟨hx, hb, hml, hown, hts, hrt, hlk⟩ hL hS
    refine lv_iload_n hx hb dJ3_checkIndex_8e157_0 rfl (lv_at hL 0 rfl) ?_
    refine lv_if_lt (tgt := 9) hx hb dJ3_checkIndex_8e157_1 rfl (fun h => absurd h (nI_pos (by omega))) (fun _ => ?_)
    refine lv_iload_n hx hb dJ3_checkIndex_8e157_4 rfl (lv_at hL 0 rfl) ?_
    refine lv_iload_n hx hb dJ3_checkIndex_8e157_5 rfl (lv_at hL 1 rfl) ?_
    refine lv_icmp_lt (tgt := 16) hx hb dJ3_checkIndex_8e157_6 rfl (fun _ => ?_) (fun h => absurd (nI_lt hk (by decide)) h)
    refine lv_iload_n hx hb dJ3_checkIndex_8e157_16 rfl (lv_at hL 0 rfl) ?_
    exact W.iret hx hb hrt (fun t ht hW => ⟨rfl, ht⟩) (fun q hq => by cases hq) dJ3_checkIndex_8e157_17 hlk
  · refine JM.ofW (by decide +kernel) (Nat.le_of_ble_eq_true rfl) (ls := [(0, .int (nI k)), (1, .int 157), (2, .ref t0)]) rfl ?_
    intro p e s m args below meth c L ⟨hx, hb, hml, hown, hts, hrt, hlk⟩ hL hS
    refine lv_iload_n hx hb dJ3_checkIndex_8e157_0 rfl (lv_at hL 0 rfl) ?_
    refine lv_if_lt (tgt := 9) hx hb dJ3_checkIndex_8e157_1 rfl (fun h => absurd h (nI_pos (by omega))) (fun _ => ?_)
    refine lv_iload_n hx hb dJ3_checkIndex_8e157_4 rfl (lv_at hL 0 rfl) ?_
    refine lv_iload_n hx hb dJ3_checkIndex_8e157_5 rfl (lv_at hL 1 rfl) ?_
    refine lv_icmp_lt (tgt := 16) hx hb dJ3_checkIndex_8e157_6 rfl (fun _ => ?_) (fun h => absurd (nI_lt hk (by decide)) h)
    refine lv_iload_n hx hb dJ3_checkIndex_8e157_16 rfl (lv_at hL 0 rfl) ?_
    exact W.iret hx hb hrt (fun t ht hW => ⟨rfl, ht⟩) (fun q hq => by cases hq) dJ3_checkIndex_8e157_17 hlk
theorem j_sCheck (hf : fm = .null ∨ ∃ t : Nat, fm = .ref t) {k : Nat} (hk : k < 157) : JM l MJ_sCheck 1 adK adV fm [.int (nI k), .int 157] none := by
  refine JM.ofW (by decide +kernel) (Nat.le_of_ble_eq_true rfl) (ls := [(0, .int (nI k)), (1, .int 157)]) rfl ?_
  intro p e s m args below meth c L ⟨hx, hb, hml, hown, hts, hrt, hlk⟩ hL hS
  refine lv_iload_n hx hb dJ0_checkIndex_df160_0 rfl (lv_at hL 0 rfl) ?_
  refine lv_iload_n hx hb dJ0_checkIndex_df160_1 rfl (lv_at hL 1 rfl) ?_
  refine va_gets hx hb hS.2.2 va_S.rf hown (hts _ w_223) (fun _ h => h) dJ0_checkIndex_df160_2 ?_
  refine (jw_callS (Y := MJ_sCheck) (lv := 1) (As := [.int (nI k), .int 157, fm]) (st := []) (rv := none) (ls := [(0, .int (nI k)), (1, .int 157)]) (j_pCheck hf hk) (by decide) mk_J_pCheck w_226 w_225 rfl rfl (Nat.le_of_ble_eq_true rfl) dJ0_checkIndex_df160_5 ?_) p e s m args below meth c L ⟨hx, hb, hml, hown, hts, hrt, hlk⟩ hL hS
  intro p e s m args below meth c L ⟨hx, hb, hml, hown, hts, hrt, hlk⟩ hL hS
  refine lv_pop hx hb dJ0_checkIndex_df160_8 rfl ?_
  exact W.vret hx hb hrt (fun t ht hW => ⟨rfl, ht⟩) (fun q hq => by cases hq) dJ0_checkIndex_df160_9 hlk
def chr (k : Nat) : Int32 := wordB.getD k 0 &&& 255
theorem j_l1 (hf : fm = .null ∨ ∃ t : Nat, fm = .ref t) {k : Nat} (hk : k < 157) : JM l MJ_l1CharAt 2 adK adV fm [.ref (adV 0), .int (nI k)] (some (.int (chr k))) := by
  refine JM.ofW (by decide +kernel) (Nat.le_of_ble_eq_true rfl) (ls := [(0, .ref (adV 0)), (1, .int (nI k))]) rfl ?_
  intro p e s m args below meth c L ⟨hx, hb, hml, hown, hts, hrt, hlk⟩ hL hS
  refine lv_iload_n hx hb dJ1_charAt_3b067_0 rfl (lv_at hL 1 rfl) ?_
  refine lv_aload_n hx hb dJ1_charAt_3b067_1 rfl (lv_at hL 0 rfl) ?_
  refine va_tlen (v := 157) hx hb (hS.1.1 0 (by decide)).2.2.2 va_S.rf rfl dJ1_charAt_3b067_2 ?_
  refine (jw_callS (Y := MJ_l1CharAt) (lv := 2) (As := [.int (nI k), .int 157]) (st := []) (rv := some (.int (chr k))) (ls := [(0, .ref (adV 0)), (1, .int (nI k))]) (j_sCheck hf hk) (by decide) mk_J_sCheck w_221 w_220 rfl rfl (Nat.le_of_ble_eq_true rfl) dJ1_charAt_3b067_3 ?_) p e s m args below meth c L ⟨hx, hb, hml, hown, hts, hrt, hlk⟩ hL hS
  intro p e s m args below meth c L ⟨hx, hb, hml, hown, hts, hrt, hlk⟩ hL hS
  refine lv_aload_n hx hb dJ1_charAt_3b067_6 rfl (lv_at hL 0 rfl) ?_
  refine lv_iload_n hx hb dJ1_charAt_3b067_7 rfl (lv_at hL 1 rfl) ?_
  refine va_tb (v := .int (wordB.getD k 0)) hx hb (hS.1.1 0 (by decide)).2.2.2 va_S.rf (vp_in_nI hk (by decide)) (by rw [nI_clamp (by omega)]; rfl) dJ1_charAt_3b067_8 ?_
  refine lv_sipush (v := 255) hx hb dJ1_charAt_3b067_9 (by decide) ?_
  refine lv_iand hx hb dJ1_charAt_3b067_12 ?_
  refine lv_i2c (v := chr k) hx hb dJ1_charAt_3b067_13 (sc_c2 _) ?_
  exact W.zret hx hb hrt (sc_nar _) (fun t ht hW => ⟨rfl, ht⟩) (fun q hq => by cases hq) dJ1_charAt_3b067_14 hlk
theorem j_charAt (hf : fm = .null ∨ ∃ t : Nat, fm = .ref t) {k : Nat} (hk : k < 157) : JM l MJ_charAt 3 adK adV fm [.ref (adK 0), .int (nI k)] (some (.int (chr k))) := by
  refine JM.ofW (by decide +kernel) (Nat.le_of_ble_eq_true rfl) (ls := [(0, .ref (adK 0)), (1, .int (nI k))]) rfl ?_
  intro p e s m args below meth c L ⟨hx, hb, hml, hown, hts, hrt, hlk⟩ hL hS
  refine lv_aload_n hx hb dJ0_charAt_5068e_0 rfl (lv_at hL 0 rfl) ?_
  refine (jw_callV (Y := MJ_charAt) (lv := 3) (As := []) (st := []) (rv := some (.int (chr k))) (ls := [(0, .ref (adK 0)), (1, .int (nI k))]) j_isLatin1 rfl (by decide) mk_J_isLatin1 w_214 w_215 w_213 rfl rfl (Nat.le_of_ble_eq_true rfl) dJ0_charAt_5068e_1 ?_) p e s m args below meth c L ⟨hx, hb, hml, hown, hts, hrt, hlk⟩ hL hS
  intro p e s m args below meth c L ⟨hx, hb, hml, hown, hts, hrt, hlk⟩ hL hS
  refine lv_if_eq (tgt := 16) hx hb dJ0_charAt_5068e_4 rfl (fun h => absurd h (by decide)) (fun _ => ?_)
  refine lv_aload_n hx hb dJ0_charAt_5068e_7 rfl (lv_at hL 0 rfl) ?_
  refine vk_getf hx hb (hS.1.1 0 (by decide)).2.2.1 va_S.rf hown (hts _ w_2243) (fun _ h => h) dJ0_charAt_5068e_8 ?_
  refine lv_iload_n hx hb dJ0_charAt_5068e_11 rfl (lv_at hL 1 rfl) ?_
  refine (jw_callS (Y := MJ_charAt) (lv := 3) (As := [.ref (adV 0), .int (nI k)]) (st := []) (rv := some (.int (chr k))) (ls := [(0, .ref (adK 0)), (1, .int (nI k))]) (j_l1 hf hk) (by decide) mk_J_l1CharAt w_218 w_217 rfl rfl (Nat.le_of_ble_eq_true rfl) dJ0_charAt_5068e_12 ?_) p e s m args below meth c L ⟨hx, hb, hml, hown, hts, hrt, hlk⟩ hL hS
  intro p e s m args below meth c L ⟨hx, hb, hml, hown, hts, hrt, hlk⟩ hL hS
  exact W.zret hx hb hrt (sc_nar _) (fun t ht hW => ⟨rfl, ht⟩) (fun q hq => by cases hq) dJ0_charAt_5068e_15 hlk
end JDK
