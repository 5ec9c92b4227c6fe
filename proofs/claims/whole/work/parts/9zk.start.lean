
set_option maxHeartbeats 4000000 in
set_option maxRecDepth 100000 in
theorem whole_start {p : Program} {e : Env} {s : State} {m : MethodId} {below : List Frame} {meth : Method} {c : Code} (l : Launch) (hflags : l.flags = flags0) {b L : Nat} {xs : Nat → Int32} (hL : L ≤ 4608) (C0 : lw_At p s m meth c b L xs) : W p l e room_1 s m #[Value.ref b] below meth c s.heap [] 0 0 (lw_Z below #[Value.ref b] s) (entryFrame m ([Value.ref b] : List Value).toArray 4) := by
  obtain ⟨hx, hb, hr, hml, hown, hts, hX, hbl, hlocks, hgv⟩ := id C0
  have hG : ∀ w ∈ Gw, w.before #[Value.ref b] s = true := fun w hw => hts w (List.mem_filter.mp hw).1
  have hA : ∀ q : Nat, s.heap.size ≤ q → lwA s q := fun _ h => h
  have hN : NW s := List.forall_mem_cons.mpr ⟨va_Nw.of rfl (hts _ (lwt_1 32 rfl)), List.forall_mem_cons.mpr ⟨va_Nw.of rfl (hts _ (lwt_2 32 rfl)), List.forall_mem_cons.mpr ⟨va_Nw.of rfl (hts _ (lwt_2 77 rfl)), List.forall_mem_cons.mpr ⟨va_Nw.of rfl (hts _ (lwt_2 131 rfl)), List.forall_mem_cons.mpr ⟨va_Nw.of rfl (hts _ (lwt_2 138 rfl)), List.forall_mem_cons.mpr ⟨va_Nw.of rfl (hts _ (lwt_2 140 rfl)), List.forall_mem_cons.mpr ⟨va_Nw.of rfl (hts _ (lwt_2 153 rfl)), List.forall_mem_cons.mpr ⟨va_Nw.of rfl (hts _ (lwt_2 234 rfl)), List.forall_mem_cons.mpr ⟨va_Nw.of rfl (hts _ (lwt_3 12 rfl)), List.forall_mem_cons.mpr ⟨va_Nw.of rfl (hts _ (lwt_3 25 rfl)), List.forall_mem_cons.mpr ⟨va_Nw.of rfl (hts _ (lwt_3 48 rfl)), List.forall_mem_cons.mpr ⟨va_Nw.of rfl (hts _ (lwt_3 53 rfl)), List.forall_mem_cons.mpr ⟨va_Nw.of rfl (hts _ (lwt_6 11 rfl)), List.forall_mem_cons.mpr ⟨va_Nw.of rfl (hts _ (lwt_6 33 rfl)), fun _ h => absurd h List.not_mem_nil⟩⟩⟩⟩⟩⟩⟩⟩⟩⟩⟩⟩⟩⟩
  have hZ := spa_start hts hgv
  have known : ∀ k : Nat, ∃ z : ClassId × (Nat → Nat), ∀ q : vw_C, vwCl[k]? = some q → u_Kn s q.1 q.2.1 q.2.2 z.1 z.2 := by
    intro k
    match k with
    | 0 =>
      obtain ⟨z, i, h⟩ := u_known (C := RX0) (T := TX0) (N := 2) hG ci_0.2.1 (hG _ w_630)
      exact ⟨(z, i), fun q hq => by cases hq; exact h⟩
    | 1 =>
      obtain ⟨z, i, h⟩ := u_known (C := RX1) (T := TX1) (N := 4) hG ci_1.2.1 (hG _ w_643)
      exact ⟨(z, i), fun q hq => by cases hq; exact h⟩
    | 2 =>
      obtain ⟨z, i, h⟩ := u_known (C := RX2) (T := TX2) (N := 3) hG ci_2.2.1 (hG _ w_612)
      exact ⟨(z, i), fun q hq => by cases hq; exact h⟩
    | 3 =>
      obtain ⟨z, i, h⟩ := u_known (C := RX3) (T := TX3) (N := 3) hG ci_3.2.1 (hG _ w_509)
      exact ⟨(z, i), fun q hq => by cases hq; exact h⟩
    | 4 =>
      obtain ⟨z, i, h⟩ := u_known (C := RX4) (T := TX4) (N := 12) hG ci_4.2.1 (hG _ w_666)
      exact ⟨(z, i), fun q hq => by cases hq; exact h⟩
    | 5 =>
      obtain ⟨z, i, h⟩ := u_known (C := RX5) (T := TX5) (N := 10) hG ci_5.2.1 (hG _ w_410)
      exact ⟨(z, i), fun q hq => by cases hq; exact h⟩
    | 6 =>
      obtain ⟨z, i, h⟩ := u_known (C := RX6) (T := TX6) (N := 14) hG ci_6.2.1 (hG _ w_531)
      exact ⟨(z, i), fun q hq => by cases hq; exact h⟩
    | 7 =>
      obtain ⟨z, i, h⟩ := u_known (C := RX7) (T := TX7) (N := 11) hG ci_7.2.1 (hG _ w_455)
      exact ⟨(z, i), fun q hq => by cases hq; exact h⟩
    | 8 =>
      obtain ⟨z, i, h⟩ := u_known (C := RX8) (T := TX8) (N := 14) hG ci_8.2.1 (hG _ w_193)
      exact ⟨(z, i), fun q hq => by cases hq; exact h⟩
    | 9 =>
      obtain ⟨z, i, h⟩ := u_known (C := RX9) (T := TX9) (N := 20) hG ci_9.2.1 (hG _ w_310)
      exact ⟨(z, i), fun q hq => by cases hq; exact h⟩
    | 10 =>
      obtain ⟨z, i, h⟩ := u_known (C := RX10) (T := TX10) (N := 4) hG ci_10.2.1 (hG _ w_170)
      exact ⟨(z, i), fun q hq => by cases hq; exact h⟩
    | 11 =>
      obtain ⟨z, i, h⟩ := u_known (C := RX11) (T := TX11) (N := 20) hG ci_11.2.1 (hG _ w_161)
      exact ⟨(z, i), fun q hq => by cases hq; exact h⟩
    | 12 =>
      obtain ⟨z, i, h⟩ := u_known (C := RX12) (T := TX12) (N := 61) hG ci_12.2.1 (hG _ w_1449)
      exact ⟨(z, i), fun q hq => by cases hq; exact h⟩
    | k + 13 => exact ⟨((0 : Nat), fun _ => 0), fun q hq => by cases hq⟩
  obtain ⟨dd, hdd⟩ := Classical.axiomOfChoice known
  have hK : va_K (fun k => (dd k).1, fun k => (dd k).2) vwCl [] s := ⟨fun k q hq => hdd k q hq, fun k q h => by simp at h⟩
  generalize hDD : ((fun k => (dd k).1, fun k => (dd k).2) : va_G) = D at hK
  have hS : va_S (lwA s) s.heap s.heap [] := va_S.rf
  have hP : va_P D vwCl [] s.heap := fun k q h => by simp at h
  have hD : va_D (lwA s) [] := ⟨fun i j p q h => by simp at h, fun k q h => by simp at h⟩
  have hl := lv_entry ([.ref b]) (n := 4) (Nat.le_of_ble_eq_true rfl)
  rw [lg_entry_eq]
  generalize (lg_sl ([.ref b]) ++ List.replicate (4 - (lg_sl ([.ref b])).length) Slot.unset).toArray = ls at hl ⊢
  have hl : lv_has ls 4 [(0, .ref b)] := hl
  refine va_new (ci := 11) (fs := [.int 0, .long 0, .long 0, .null, .null, .null, .null, .null, .null, .null, .null, .null, .int 0, .null, .null, .null, .null, .null, .null, .null]) (C := RX11) (T := TX11) (N := 20) hx hb hG ci_11.2.1 tyX11 ci_11.2.2.1 hown (hG _ w_160) (hG _ w_161) (hG _ w_140) hK hP hD hS hA rfl zr_11 (Nat.le_of_ble_eq_true rfl) (Nat.le_of_ble_eq_true rfl) dL_0 (fun q1 H hP hD hS => ?_)
  refine lv_dup hx hb dL_3 rfl ?_
  refine cw_run (wr := []) (wc := [(q1, .inr (11, [.int 0, .long 0, .long 0, .null, .null, .null, .null, .null, .null, .null, .null, .null, .int 0, .null, .null, .null, .null, .null, .null, .null]))]) (va_runI (As := []) (rest := [.ref q1]) ⟨hx, hb, hml, hown, hG⟩ (k11_init q1 H.size) ⟨callB_of 0 hG (good_ws mk_11_init) rfl rfl rfl (hG _ mk_11_init.2.1) (hG _ w_162) mk_11_init.2.2.1 ⟨Nat.le_of_ble_eq_true rfl, Nat.le_of_ble_eq_true rfl⟩, rfl, hG _ w_163⟩ ⟨cm_blind, fun U hU hW => ⟨rfl, cPre_of (wr := []) (fun q hq => by cases hq) hP hD hK hS hA hZ hN hU hW⟩⟩ rfl rfl hl.1 rfl (lv_room (Nat.le_of_ble_eq_true rfl)) dL_4 ⟨Nat.le_of_ble_eq_true rfl, Nat.le_of_ble_eq_true rfl⟩) hP hD hK hS hA (fun Ha locs w1 t1 hE1 hPa hDa hKa hSa => ?_)
  obtain ⟨ad1, cid1, e1, hp1, ht1⟩ := hE1
  subst e1
  refine va_forget hSa.2.2 ?_
  have hSa : va_S (lwA s) s.heap Ha [] := ⟨hSa.1, hSa.2.1, fun q hq => by cases hq⟩
  refine lv_astore_n (lv' := [(1, .ref (ad1 11 0 0)), (0, .ref b)]) hx hb dL_7 rfl hl (by decide) rfl (fun ls hl => ?_)
  refine va_new (ci := 12) (fs := [.int 0, .int 0, .long 0, .long 0, .null, .null, .null, .null, .int 0, .int 0, .int 0, .int 0, .int 0, .int 0, .int 0, .int 0, .int 0, .int 0, .int 0, .long 0, .null, .null, .null, .int 0, .int 0, .int 0, .int 0, .int 0, .int 0, .int 0, .int 0, .int 0, .null, .int 0, .int 0, .long 0, .long 0, .null, .null, .null, .long 0, .long 0, .long 0, .long 0, .long 0, .long 0, .null, .int 0, .int 0, .int 0, .int 0, .int 0, .int 0, .int 0, .int 0, .int 0, .int 0, .int 0, .int 0, .int 0, .int 0]) (C := RX12) (T := TX12) (N := 61) hx hb hG ci_12.2.1 tyX12 ci_12.2.2.1 hown (hG _ w_1448) (hG _ w_1449) (hG _ w_156) hKa hPa hDa hSa hA rfl zr_12 (Nat.le_of_ble_eq_true rfl) (Nat.le_of_ble_eq_true rfl) dL_8 (fun q2 Hb hPb hDb hSb => ?_)
  refine lv_dup hx hb dL_11 rfl ?_
  refine cw_run (wr := [] ++ w1) (wc := [(q2, .inr (12, [.int 0, .int 0, .long 0, .long 0, .null, .null, .null, .null, .int 0, .int 0, .int 0, .int 0, .int 0, .int 0, .int 0, .int 0, .int 0, .int 0, .int 0, .long 0, .null, .null, .null, .int 0, .int 0, .int 0, .int 0, .int 0, .int 0, .int 0, .int 0, .int 0, .null, .int 0, .int 0, .long 0, .long 0, .null, .null, .null, .long 0, .long 0, .long 0, .long 0, .long 0, .long 0, .null, .int 0, .int 0, .int 0, .int 0, .int 0, .int 0, .int 0, .int 0, .int 0, .int 0, .int 0, .int 0, .int 0, .int 0]))]) (va_runI (As := []) (rest := [.ref q2]) ⟨hx, hb, hml, hown, hG⟩ (k12_init q2 Hb.size) ⟨callB_of 0 hG (good_ws mk_12_init) rfl rfl rfl (hG _ mk_12_init.2.1) (hG _ w_1450) mk_12_init.2.2.1 ⟨Nat.le_of_ble_eq_true rfl, Nat.le_of_ble_eq_true rfl⟩, rfl, hG _ w_1451⟩ ⟨cm_blind, fun U hU hW => ⟨rfl, cPre_of (wr := [] ++ w1) (fun q hq => by cases hq) hPb hDb hKa hSb hA hZ hN hU hW⟩⟩ rfl rfl hl.1 rfl (lv_room (Nat.le_of_ble_eq_true rfl)) dL_12 ⟨Nat.le_of_ble_eq_true rfl, Nat.le_of_ble_eq_true rfl⟩) hPb hDb hKa hSb hA (fun Hc locs w2 t2 hE2 hPc hDc hKc hSc => ?_)
  obtain ⟨ad2, cid2, e2, rfl, ht2⟩ := hE2
  subst e2
  refine va_forget hSc.2.2 ?_
  have hSc : va_S (lwA s) s.heap Hc [] := ⟨hSc.1, hSc.2.1, fun q hq => by cases hq⟩
  refine lv_astore_n (lv' := [(2, .ref (ad2 12 0 0)), (1, .ref (ad1 11 0 0)), (0, .ref b)]) hx hb dL_15 rfl hl (by decide) rfl (fun ls hl => ?_)
  refine lv_iconst (v := 0) hx hb dL_16 (by decide) ?_
  refine lv_istore_n (lv' := [(3, .int 0), (2, .ref (ad2 12 0 0)), (1, .ref (ad1 11 0 0)), (0, .ref b)]) hx hb dL_17 rfl hl (by decide) rfl (fun ls hl => ?_)
  have eC : wd (keysC, ad1, shC ad1 cid1) σC0 = wd (keysC, (fun x b c => match x with | 12 => ad2 12 b c | x => ad1 x b c), shC (fun x b c => match x with | 12 => ad2 12 b c | x => ad1 x b c) (fun x b c => match x with | 12 => cid2 12 b c | x => cid1 x b c)) σC0 := rfl
  have eM : wd (keysM, ad2, shM ad2 cid2) σM0 = wd (keysM, (fun x b c => match x with | 12 => ad2 12 b c | x => ad1 x b c), shM (fun x b c => match x with | 12 => ad2 12 b c | x => ad1 x b c) (fun x b c => match x with | 12 => cid2 12 b c | x => cid1 x b c)) σM0 := rfl
  have hP1 : va_P D vwCl (wd (keysC, ad1, shC ad1 cid1) σC0) Hc := va_P_of hPc fun q hq => List.mem_append_left _ (hp1.mem_iff.mpr hq)
  have hP2 : va_P D vwCl (wd (keysM, ad2, shM ad2 cid2) σM0) Hc := va_P_of hPc fun q hq => List.mem_append_right _ hq
  have hD2 : va_D (lwA s) (wd (keysC, ad1, shC ad1 cid1) σC0 ++ wd (keysM, ad2, shM ad2 cid2) σM0) := va_D_perm (hp1.append_right _) hDc
  have hK1 : va_K D vwCl (tysC cid1) s := va_K_of hKc fun q hq => List.mem_append_left _ (List.mem_append_right _ (ht1 q hq))
  have hK2 : va_K D vwCl (tysM cid2) s := va_K_of hKc fun q hq => List.mem_append_right _ (ht2 q hq)
  rw [eC] at hP1 hD2
  rw [eM] at hP2 hD2
  have F : LF p s m meth c D (fun x b c => match x with | 12 => ad2 12 b c | x => ad1 x b c) (fun x b c => match x with | 12 => cid2 12 b c | x => cid1 x b c) b L xs :=
    ⟨C0, hL, hK1, hK2, hN, fun σC σM => va_D_fst (by rw [List.map_append, List.map_append, wd_fst _ σC0 σC, wd_fst _ σM0 σM]) hD2⟩
  exact law_loop F ⟨Nat.le_of_ble_eq_true rfl, Nat.le_of_ble_eq_true rfl⟩ (L + 1) 0 σC0 σM0 (by omega) (Nat.zero_le _) rel_start Hc ls (lv_sub hl [3, 2, 1, 0] rfl) hP1 hP2 hSc
