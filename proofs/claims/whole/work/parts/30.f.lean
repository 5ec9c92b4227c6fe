def F11_status (σ : Mem)  : Int32 :=
  (gI σ 11 0 0 0)
set_option maxRecDepth 20000 in
theorem c11_status {l : Launch} {D : va_G} {ad : Nat → Nat → Nat → Nat} {cid : Nat → Nat → Nat → ClassId} (σ : Mem)  : AMF (XC l D ad cid) M11_status 0 eI [.ref (ad 11 0 0)] σ (some (F11_status σ, σ)) := by
  refine AM.ofW (by decide +kernel) (Nat.le_of_ble_eq_true rfl) (ls := [(0, .ref (ad 11 0 0))]) rfl ?_
  refine aw_entryT ?_
  unfold F11_status
  refine aw_aload_n 0 dX11_status_0 rfl rfl ?_
  refine aw_getf (fg_11_0 (by decide)) ci_11 (by decide) w_717 dX11_status_1 ?_
  exact aw_ireturn rfl dX11_status_4
def F11_top (σ : Mem)  : Int64 :=
  (gL σ 11 0 0 1)
set_option maxRecDepth 20000 in
theorem c11_top {l : Launch} {D : va_G} {ad : Nat → Nat → Nat → Nat} {cid : Nat → Nat → Nat → ClassId} (σ : Mem)  : AMF (XC l D ad cid) M11_top 0 eL [.ref (ad 11 0 0)] σ (some (F11_top σ, σ)) := by
  refine AM.ofW (by decide +kernel) (Nat.le_of_ble_eq_true rfl) (ls := [(0, .ref (ad 11 0 0))]) rfl ?_
  refine aw_entryT ?_
  unfold F11_top
  refine aw_aload_n 0 dX11_top_0 rfl rfl ?_
  refine aw_getf (fg_11_1 (by decide)) ci_11 (by decide) w_718 dX11_top_1 ?_
  exact aw_lreturn rfl dX11_top_4
def F11_bottom (σ : Mem)  : Int64 :=
  (gL σ 11 0 0 2)
set_option maxRecDepth 20000 in
theorem c11_bottom {l : Launch} {D : va_G} {ad : Nat → Nat → Nat → Nat} {cid : Nat → Nat → Nat → ClassId} (σ : Mem)  : AMF (XC l D ad cid) M11_bottom 0 eL [.ref (ad 11 0 0)] σ (some (F11_bottom σ, σ)) := by
  refine AM.ofW (by decide +kernel) (Nat.le_of_ble_eq_true rfl) (ls := [(0, .ref (ad 11 0 0))]) rfl ?_
  refine aw_entryT ?_
  unfold F11_bottom
  refine aw_aload_n 0 dX11_bottom_0 rfl rfl ?_
  refine aw_getf (fg_11_2 (by decide)) ci_11 (by decide) w_719 dX11_bottom_1 ?_
  exact aw_lreturn rfl dX11_bottom_4
def F11_within (x0 : Int32) (x1 : Int32) (x2 : Int32) : Bool :=
  if x0 < x1 then (false) else (if x2 < x0 then (false) else (true))
set_option maxRecDepth 20000 in
theorem c11_within {l : Launch} {D : va_G} {ad : Nat → Nat → Nat → Nat} {cid : Nat → Nat → Nat → ClassId} (σ : Mem) (x0 : Int32) (x1 : Int32) (x2 : Int32) : AMF (XC l D ad cid) M11_within 0 eB [.int x0, .int x1, .int x2] σ (some (F11_within x0 x1 x2, σ)) := by
  refine AM.ofW (by decide +kernel) (Nat.le_of_ble_eq_true rfl) (ls := [(0, .int x0), (1, .int x1), (2, .int x2)]) rfl ?_
  refine aw_entryT ?_
  unfold F11_within
  refine aw_iload_n 0 dX11_within_0 rfl rfl ?_
  refine aw_iload_n 1 dX11_within_1 rfl rfl ?_
  refine aw_iteT ?_
  refine aw_icmp_lt 14 dX11_within_2 (by decide) ?_ ?_
  · refine aw_iconst 0 dX11_within_14 (by decide) ?_
    exact aw_zreturn (b := false) rfl rfl dX11_within_15
  · refine aw_iload_n 0 dX11_within_5 rfl rfl ?_
    refine aw_iload_n 2 dX11_within_6 rfl rfl ?_
    refine aw_iteT ?_
    refine aw_icmp_gt 14 dX11_within_7 (by decide) ?_ ?_
    · refine aw_iconst 0 dX11_within_14 (by decide) ?_
      exact aw_zreturn (b := false) rfl rfl dX11_within_15
    · refine aw_iconst 1 dX11_within_10 (by decide) ?_
      refine aw_goto 15 dX11_within_11 (by decide) ?_
      exact aw_zreturn (b := true) rfl rfl dX11_within_15
def F11_isTray (x0 : Int32) : Bool :=
  (F11_within x0 0 3)
set_option maxRecDepth 20000 in
theorem c11_isTray {l : Launch} {D : va_G} {ad : Nat → Nat → Nat → Nat} {cid : Nat → Nat → Nat → ClassId} (σ : Mem) (x0 : Int32) : AMF (XC l D ad cid) M11_isTray 1 eB [.int x0] σ (some (F11_isTray x0, σ)) := by
  refine AM.ofW (by decide +kernel) (Nat.le_of_ble_eq_true rfl) (ls := [(0, .int x0)]) rfl ?_
  refine aw_entryT ?_
  unfold F11_isTray
  refine aw_iload_n 0 dX11_isTray_0 rfl rfl ?_
  refine aw_iconst 0 dX11_isTray_1 (by decide) ?_
  refine aw_iconst 3 dX11_isTray_2 (by decide) ?_
  refine aw_callST_B (c11_within σ x0 0 3) (by decide) mk_11_within w_798 w_797 rfl rfl (Nat.le_of_ble_eq_true rfl) dX11_isTray_3 ?_
  exact aw_zreturn (b := (F11_within x0 0 3)) rfl rfl dX11_isTray_6
def F11_deny (σ : Mem) (x1 : Int32) : Option (Bool × Mem) :=
  bnd (sI σ 11 0 0 0 x1) fun s_1 => some (false, s_1)
set_option maxRecDepth 20000 in
theorem c11_deny {l : Launch} {D : va_G} {ad : Nat → Nat → Nat → Nat} {cid : Nat → Nat → Nat → ClassId} (σ : Mem) (x1 : Int32) : AMF (XC l D ad cid) M11_deny 0 eB [.ref (ad 11 0 0), .int x1] σ (F11_deny σ x1) := by
  refine AM.ofW (by decide +kernel) (Nat.le_of_ble_eq_true rfl) (ls := [(0, .ref (ad 11 0 0)), (1, .int x1)]) rfl ?_
  refine aw_entry ?_
  unfold F11_deny
  refine aw_aload_n 0 dX11_deny_0 rfl rfl ?_
  refine aw_iload_n 1 dX11_deny_1 rfl rfl ?_
  refine aw_putI (fs_11_0 (by decide)) ci_11 (by decide) rfl rfl w_717 dX11_deny_2 ?_
  refine aw_bndM (fun s_1 => ?_)
  refine aw_iconst 0 dX11_deny_5 (by decide) ?_
  exact aw_zreturn (b := false) rfl rfl dX11_deny_6
def F20_fillL_L6 (a0 : Nat) (b0 : Nat) (c0 : Nat) (n0 : Nat) (y1 : Int64) (x4 : Int32) : Nat → Mem → Int32 → Option ((Unit) × Mem)
  | 0 => fun _ _ => none
  | n + 1 => fun σ x3 =>
    if x4 ≤ x3 then (some ((), σ)) else (chk n0 x3 <| bnd (sL σ a0 b0 c0 (Int32.toNatClampNeg x3) y1) fun s_2 => (F20_fillL_L6 a0 b0 c0 n0 y1 x4 n) s_2 (x3 + 1))
set_option maxRecDepth 20000 in
theorem c20_fillL_L6 {X : Ctx} {α : Type} {emb : α → Option Value} (a0 : Nat) (b0 : Nat) (c0 : Nat) (n0 : Nat) (hn0 : IsL X a0 b0 c0 n0) (y1 : Int64) (x4 : Int32) {G : Unit → Mem → Option (α × Mem)} (kx : ∀ r σ, AW X M20_fillL 0 emb [] 22 [] σ (G r σ)) : ∀ (n : Nat) (σ : Mem) (x3 : Int32), AW X M20_fillL 0 emb [(0, .ref (X.2.2.2.2.1 a0 b0 c0)), (1, .long y1), (3, .int x3), (4, .int x4)] 6 [] σ (bd (F20_fillL_L6 a0 b0 c0 n0 y1 x4 n σ x3) G) := by
  intro n
  induction n with
  | zero => intros; exact aw_none
  | succ n ih =>
    intro σ x3
    refine aw_bdB ?_
    rw [F20_fillL_L6.eq_2]
    refine aw_iload_n 2 dX20_fillL_6 rfl rfl ?_
    refine aw_iload 3 dX20_fillL_7 rfl ?_
    refine aw_icmp_ge 22 dX20_fillL_9 (by decide) ?_ ?_
    · refine aw_ls (ls' := []) [] rfl ?_
      exact kx () σ
    · refine aw_aload_n 0 dX20_fillL_12 rfl rfl ?_
      refine aw_iload_n 2 dX20_fillL_13 rfl rfl ?_
      refine aw_lload_n 1 dX20_fillL_14 rfl rfl ?_
      refine aw_lastore hn0 dX20_fillL_15 ?_
      refine aw_bndM (fun s_2 => ?_)
      refine aw_iinc (ls' := [(0, .ref (X.2.2.2.2.1 a0 b0 c0)), (1, .long y1), (3, .int (x3 + 1)), (4, .int x4)]) (x3 + 1) 2 [1, 2, 0, 3] dX20_fillL_16 rfl (by rfl) (by decide) rfl ?_
      refine aw_goto 6 dX20_fillL_19 (by decide) ?_
      exact ih s_2 (x3 + 1)
def F20_fillL (σ : Mem) (a0 : Nat) (b0 : Nat) (c0 : Nat) (n0 : Nat) (y1 : Int64) : Option (Unit × Mem) :=
  bnd (Int32.ofNat n0) fun v_1 => bd (F20_fillL_L6 a0 b0 c0 n0 y1 v_1 fuelK σ 0) fun r_3 s_4 => some ((), s_4)
set_option maxRecDepth 20000 in
theorem c20_fillL {X : Ctx} (σ : Mem) (a0 : Nat) (b0 : Nat) (c0 : Nat) (n0 : Nat) (hn0 : IsL X a0 b0 c0 n0) (y1 : Int64) : AMF X M20_fillL 0 eU [.ref (X.2.2.2.2.1 a0 b0 c0), .long y1] σ (F20_fillL σ a0 b0 c0 n0 y1) := by
  refine AM.ofW (by decide +kernel) (Nat.le_of_ble_eq_true rfl) (ls := [(0, .ref (X.2.2.2.2.1 a0 b0 c0)), (1, .long y1)]) rfl ?_
  refine aw_entry ?_
  unfold F20_fillL
  refine aw_iconst 0 dX20_fillL_0 (by decide) ?_
  refine aw_istore_n (ls' := [(0, .ref (X.2.2.2.2.1 a0 b0 c0)), (1, .long y1), (3, .int 0)]) [1, 2, 0] dX20_fillL_1 rfl (by decide) rfl ?_
  refine aw_aload_n 0 dX20_fillL_2 rfl rfl ?_
  refine aw_alenL hn0 rfl dX20_fillL_3 ?_
  refine aw_bnd_int (fun v_1 => ?_)
  refine aw_istore (ls' := [(0, .ref (X.2.2.2.2.1 a0 b0 c0)), (1, .long y1), (3, .int 0), (4, .int v_1)]) [1, 2, 3, 0] dX20_fillL_4 (by decide) rfl ?_
  refine aw_assocW ?_
  refine c20_fillL_L6 a0 b0 c0 n0 hn0 y1 v_1 (fun r_3 s_4 => ?_) fuelK σ 0
  exact aw_return rfl dX20_fillL_22
def F10_lay (σ : Mem) (t0 : Nat) (x1 : Int32) (x2 : Int32) : Option (Unit × Mem) :=
  bnd (sB σ 10 t0 0 0 true) fun s_1 => bnd (sI s_1 10 t0 0 1 x1) fun s_2 => bnd (sI s_2 10 t0 0 2 x2) fun s_3 => bd (F20_fillL s_3 10 t0 1 60 0) fun _ s_4 => some ((), s_4)
set_option maxRecDepth 20000 in
theorem c10_lay {l : Launch} {D : va_G} {ad : Nat → Nat → Nat → Nat} {cid : Nat → Nat → Nat → ClassId} (σ : Mem) (t0 : Nat) (ht0 : t0 < 4) (x1 : Int32) (x2 : Int32) : AMF (XC l D ad cid) M10_lay 1 eU [.ref (ad 10 t0 0), .int x1, .int x2] σ (F10_lay σ t0 x1 x2) := by
  refine AM.ofW (by decide +kernel) (Nat.le_of_ble_eq_true rfl) (ls := [(0, .ref (ad 10 t0 0)), (1, .int x1), (2, .int x2)]) rfl ?_
  refine aw_entry ?_
  unfold F10_lay
  refine aw_aload_n 0 dX10_lay_0 rfl rfl ?_
  refine aw_iconst 1 dX10_lay_1 (by decide) ?_
  refine aw_putB (v := true) rfl (fs_10_0 (by omega)) ci_10 (by decide) rfl rfl w_175 dX10_lay_2 ?_
  refine aw_bndM (fun s_1 => ?_)
  refine aw_aload_n 0 dX10_lay_5 rfl rfl ?_
  refine aw_iload_n 1 dX10_lay_6 rfl rfl ?_
  refine aw_putI (fs_10_1 (by omega)) ci_10 (by decide) rfl rfl w_177 dX10_lay_7 ?_
  refine aw_bndM (fun s_2 => ?_)
  refine aw_aload_n 0 dX10_lay_10 rfl rfl ?_
  refine aw_iload_n 2 dX10_lay_11 rfl rfl ?_
  refine aw_putI (fs_10_2 (by omega)) ci_10 (by decide) rfl rfl w_179 dX10_lay_12 ?_
  refine aw_bndM (fun s_3 => ?_)
  refine aw_aload_n 0 dX10_lay_15 rfl rfl ?_
  refine aw_getf (fg_10_3 (by omega)) ci_10 (by decide) w_180 dX10_lay_16 ?_
  refine aw_lconst 0 dX10_lay_19 (by decide) ?_
  refine aw_callSW_U (c20_fillL s_3 10 t0 1 60 (ar_10_1 (by omega)) 0) (by decide) mk_20_fillL w_809 w_808 rfl rfl (Nat.le_of_ble_eq_true rfl) dX10_lay_20 (fun _ s_4 => ?_)
  exact aw_return rfl dX10_lay_23
def F11_agree (σ : Mem)  : Option (Bool × Mem) :=
  bnd (sI σ 11 0 0 0 0) fun s_1 => some (true, s_1)
set_option maxRecDepth 20000 in
theorem c11_agree {l : Launch} {D : va_G} {ad : Nat → Nat → Nat → Nat} {cid : Nat → Nat → Nat → ClassId} (σ : Mem)  : AMF (XC l D ad cid) M11_agree 0 eB [.ref (ad 11 0 0)] σ (F11_agree σ) := by
  refine AM.ofW (by decide +kernel) (Nat.le_of_ble_eq_true rfl) (ls := [(0, .ref (ad 11 0 0))]) rfl ?_
  refine aw_entry ?_
  unfold F11_agree
  refine aw_aload_n 0 dX11_agree_0 rfl rfl ?_
  refine aw_iconst 0 dX11_agree_1 (by decide) ?_
  refine aw_putI (fs_11_0 (by decide)) ci_11 (by decide) rfl rfl w_717 dX11_agree_2 ?_
  refine aw_bndM (fun s_1 => ?_)
  refine aw_iconst 1 dX11_agree_5 (by decide) ?_
  exact aw_zreturn (b := true) rfl rfl dX11_agree_6
def F11_tray (σ : Mem) (x1 : Int32) (x2 : Int32) (x3 : Int32) : Option (Bool × Mem) :=
  if (F11_isTray x1) = true then (if (F11_within x2 0 3) = true then (if x3 ≤ 60 then (if 0 ≤ x3 then ((ald 4 id x1).bind fun t_3 => bd (F10_lay σ t_3 x2 x3) fun _ s_4 => bd (F11_agree s_4) fun v_5 s_6 => some (v_5, s_6)) else (bd (F11_deny σ 6) fun v_7 s_8 => some (v_7, s_8))) else (bd (F11_deny σ 5) fun v_9 s_10 => some (v_9, s_10))) else (bd (F11_deny σ 1) fun v_11 s_12 => some (v_11, s_12))) else (bd (F11_deny σ 1) fun v_1 s_2 => some (v_1, s_2))
set_option maxRecDepth 20000 in
theorem c11_tray {l : Launch} {D : va_G} {ad : Nat → Nat → Nat → Nat} {cid : Nat → Nat → Nat → ClassId} (σ : Mem) (x1 : Int32) (x2 : Int32) (x3 : Int32) : AMF (XC l D ad cid) M11_tray 2 eB [.ref (ad 11 0 0), .int x1, .int x2, .int x3] σ (F11_tray σ x1 x2 x3) := by
  refine AM.ofW (by decide +kernel) (Nat.le_of_ble_eq_true rfl) (ls := [(0, .ref (ad 11 0 0)), (1, .int x1), (2, .int x2), (3, .int x3)]) rfl ?_
  refine aw_entry ?_
  unfold F11_tray
  refine aw_iload_n 1 dX11_tray_0 rfl rfl ?_
  refine aw_callST_B (c11_isTray σ x1) (by decide) mk_11_isTray w_795 w_794 rfl rfl (Nat.le_of_ble_eq_true rfl) dX11_tray_1 ?_
  refine aw_bif_eq 16 dX11_tray_4 (by decide) ?_ ?_
  · refine aw_aload_n 0 dX11_tray_16 rfl rfl ?_
    refine aw_iconst 1 dX11_tray_17 (by decide) ?_
    refine aw_callVW_B (c11_deny σ 1) (io_11 (by decide)) ci_11 (by decide) mk_11_deny w_802 w_0 w_800 rfl rfl (Nat.le_of_ble_eq_true rfl) dX11_tray_18 (fun v_1 s_2 => ?_)
    exact aw_zreturn (b := v_1) rfl rfl dX11_tray_21
  · refine aw_iload_n 2 dX11_tray_7 rfl rfl ?_
    refine aw_iconst 0 dX11_tray_8 (by decide) ?_
    refine aw_iconst 3 dX11_tray_9 (by decide) ?_
    refine aw_callST_B (c11_within σ x2 0 3) (by decide) mk_11_within w_798 w_797 rfl rfl (Nat.le_of_ble_eq_true rfl) dX11_tray_10 ?_
    refine aw_bif_ne 22 dX11_tray_13 (by decide) ?_ ?_
    · refine aw_iload_n 3 dX11_tray_22 rfl rfl ?_
      refine aw_bipush 60 dX11_tray_23 (by decide) ?_
      refine aw_icmp_le 34 dX11_tray_25 (by decide) ?_ ?_
      · refine aw_iload_n 3 dX11_tray_34 rfl rfl ?_
        refine aw_if_ge 45 dX11_tray_35 (by decide) ?_ ?_
        · refine aw_aload_n 0 dX11_tray_45 rfl rfl ?_
          refine aw_getf (fg_11_3 (by decide)) ci_11 (by decide) w_720 dX11_tray_46 ?_
          refine aw_iload_n 1 dX11_tray_49 rfl rfl ?_
          refine aw_aaload (ar_11_1 (by decide)) dX11_tray_50 (fun t_3 ht_3 => ?_)
          refine aw_iload_n 2 dX11_tray_51 rfl rfl ?_
          refine aw_iload_n 3 dX11_tray_52 rfl rfl ?_
          refine aw_callVW_U (c10_lay σ t_3 (by omega) x2 x3) (io_10 (by omega)) ci_10 (by decide) mk_10_lay w_805 w_806 w_804 rfl rfl (Nat.le_of_ble_eq_true rfl) dX11_tray_53 (fun _ s_4 => ?_)
          refine aw_aload_n 0 dX11_tray_56 rfl rfl ?_
          refine aw_callVW_B (c11_agree s_4 ) (io_11 (by decide)) ci_11 (by decide) mk_11_agree w_813 w_1 w_811 rfl rfl (Nat.le_of_ble_eq_true rfl) dX11_tray_57 (fun v_5 s_6 => ?_)
          exact aw_zreturn (b := v_5) rfl rfl dX11_tray_60
        · refine aw_aload_n 0 dX11_tray_38 rfl rfl ?_
          refine aw_bipush 6 dX11_tray_39 (by decide) ?_
          refine aw_callVW_B (c11_deny σ 6) (io_11 (by decide)) ci_11 (by decide) mk_11_deny w_802 w_0 w_800 rfl rfl (Nat.le_of_ble_eq_true rfl) dX11_tray_41 (fun v_7 s_8 => ?_)
          exact aw_zreturn (b := v_7) rfl rfl dX11_tray_44
      · refine aw_aload_n 0 dX11_tray_28 rfl rfl ?_
        refine aw_iconst 5 dX11_tray_29 (by decide) ?_
        refine aw_callVW_B (c11_deny σ 5) (io_11 (by decide)) ci_11 (by decide) mk_11_deny w_802 w_0 w_800 rfl rfl (Nat.le_of_ble_eq_true rfl) dX11_tray_30 (fun v_9 s_10 => ?_)
        exact aw_zreturn (b := v_9) rfl rfl dX11_tray_33
    · refine aw_aload_n 0 dX11_tray_16 rfl rfl ?_
      refine aw_iconst 1 dX11_tray_17 (by decide) ?_
      refine aw_callVW_B (c11_deny σ 1) (io_11 (by decide)) ci_11 (by decide) mk_11_deny w_802 w_0 w_800 rfl rfl (Nat.le_of_ble_eq_true rfl) dX11_tray_18 (fun v_11 s_12 => ?_)
      exact aw_zreturn (b := v_11) rfl rfl dX11_tray_21
def F10_hasFrom (σ : Mem) (t0 : Nat) (x1 : Int32) (x2 : Int32) : Bool :=
  if x1 < 0 then (false) else (if x2 < 0 then (false) else (if (gI σ 10 t0 0 2) < x2 then (false) else (if ((gI σ 10 t0 0 2) - x2) < x1 then (false) else (true))))
set_option maxRecDepth 20000 in
theorem c10_hasFrom {l : Launch} {D : va_G} {ad : Nat → Nat → Nat → Nat} {cid : Nat → Nat → Nat → ClassId} (σ : Mem) (t0 : Nat) (ht0 : t0 < 4) (x1 : Int32) (x2 : Int32) : AMF (XC l D ad cid) M10_hasFrom 0 eB [.ref (ad 10 t0 0), .int x1, .int x2] σ (some (F10_hasFrom σ t0 x1 x2, σ)) := by
  refine AM.ofW (by decide +kernel) (Nat.le_of_ble_eq_true rfl) (ls := [(0, .ref (ad 10 t0 0)), (1, .int x1), (2, .int x2)]) rfl ?_
  refine aw_entryT ?_
  unfold F10_hasFrom
  refine aw_iload_n 1 dX10_hasFrom_0 rfl rfl ?_
  refine aw_iteT ?_
  refine aw_if_lt 30 dX10_hasFrom_1 (by decide) ?_ ?_
  · refine aw_iconst 0 dX10_hasFrom_30 (by decide) ?_
    exact aw_zreturn (b := false) rfl rfl dX10_hasFrom_31
  · refine aw_iload_n 2 dX10_hasFrom_4 rfl rfl ?_
    refine aw_iteT ?_
    refine aw_if_lt 30 dX10_hasFrom_5 (by decide) ?_ ?_
    · refine aw_iconst 0 dX10_hasFrom_30 (by decide) ?_
      exact aw_zreturn (b := false) rfl rfl dX10_hasFrom_31
    · refine aw_iload_n 2 dX10_hasFrom_8 rfl rfl ?_
      refine aw_aload_n 0 dX10_hasFrom_9 rfl rfl ?_
      refine aw_getf (fg_10_2 (by omega)) ci_10 (by decide) w_179 dX10_hasFrom_10 ?_
      refine aw_iteT ?_
      refine aw_icmp_gt 30 dX10_hasFrom_13 (by decide) ?_ ?_
      · refine aw_iconst 0 dX10_hasFrom_30 (by decide) ?_
        exact aw_zreturn (b := false) rfl rfl dX10_hasFrom_31
      · refine aw_iload_n 1 dX10_hasFrom_16 rfl rfl ?_
        refine aw_aload_n 0 dX10_hasFrom_17 rfl rfl ?_
        refine aw_getf (fg_10_2 (by omega)) ci_10 (by decide) w_179 dX10_hasFrom_18 ?_
        refine aw_iload_n 2 dX10_hasFrom_21 rfl rfl ?_
        refine aw_isub dX10_hasFrom_22 ?_
        refine aw_iteT ?_
        refine aw_icmp_gt 30 dX10_hasFrom_23 (by decide) ?_ ?_
        · refine aw_iconst 0 dX10_hasFrom_30 (by decide) ?_
          exact aw_zreturn (b := false) rfl rfl dX10_hasFrom_31
        · refine aw_iconst 1 dX10_hasFrom_26 (by decide) ?_
          refine aw_goto 31 dX10_hasFrom_27 (by decide) ?_
          exact aw_zreturn (b := true) rfl rfl dX10_hasFrom_31
def F11_wrongPlace (σ : Mem) (x1 : Int32) (x2 : Int32) : Option Int32 :=
  if (F11_isTray x1) = true then ((ald 4 id x1).bind fun t_1 => if (gB σ 10 t_1 0 0) = true then ((ald 4 id x1).bind fun t_2 => if (F10_hasFrom σ t_2 x2 1) = true then (some 0) else (some 4)) else (some 3)) else (some 1)
set_option maxRecDepth 20000 in
theorem c11_wrongPlace {l : Launch} {D : va_G} {ad : Nat → Nat → Nat → Nat} {cid : Nat → Nat → Nat → ClassId} (σ : Mem) (x1 : Int32) (x2 : Int32) : AMF (XC l D ad cid) M11_wrongPlace 2 eI [.ref (ad 11 0 0), .int x1, .int x2] σ (oM σ (F11_wrongPlace σ x1 x2)) := by
  refine AM.ofW (by decide +kernel) (Nat.le_of_ble_eq_true rfl) (ls := [(0, .ref (ad 11 0 0)), (1, .int x1), (2, .int x2)]) rfl ?_
  refine aw_entryO ?_
  unfold F11_wrongPlace
  refine aw_iload_n 1 dX11_wrongPlace_0 rfl rfl ?_
  refine aw_callST_B (c11_isTray σ x1) (by decide) mk_11_isTray w_795 w_794 rfl rfl (Nat.le_of_ble_eq_true rfl) dX11_wrongPlace_1 ?_
  refine aw_bif_ne 9 dX11_wrongPlace_4 (by decide) ?_ ?_
  · refine aw_aload_n 0 dX11_wrongPlace_9 rfl rfl ?_
    refine aw_getf (fg_11_3 (by decide)) ci_11 (by decide) w_720 dX11_wrongPlace_10 ?_
    refine aw_iload_n 1 dX11_wrongPlace_13 rfl rfl ?_
    refine aw_aaload (ar_11_1 (by decide)) dX11_wrongPlace_14 (fun t_1 ht_1 => ?_)
    refine aw_getf (fg_10_0 (by omega)) ci_10 (by decide) w_176 dX11_wrongPlace_15 ?_
    refine aw_bif_ne 23 dX11_wrongPlace_18 (by decide) ?_ ?_
    · refine aw_aload_n 0 dX11_wrongPlace_23 rfl rfl ?_
      refine aw_getf (fg_11_3 (by decide)) ci_11 (by decide) w_720 dX11_wrongPlace_24 ?_
      refine aw_iload_n 1 dX11_wrongPlace_27 rfl rfl ?_
      refine aw_aaload (ar_11_1 (by decide)) dX11_wrongPlace_28 (fun t_2 ht_2 => ?_)
      refine aw_iload_n 2 dX11_wrongPlace_29 rfl rfl ?_
      refine aw_iconst 1 dX11_wrongPlace_30 (by decide) ?_
      refine aw_callVT_B (c10_hasFrom σ t_2 (by omega) x2 1) (io_10 (by omega)) ci_10 (by decide) mk_10_hasFrom w_824 w_825 w_823 rfl rfl (Nat.le_of_ble_eq_true rfl) dX11_wrongPlace_31 ?_
      refine aw_bif_eq 41 dX11_wrongPlace_34 (by decide) ?_ ?_
      · refine aw_iconst 4 dX11_wrongPlace_41 (by decide) ?_
        exact aw_ireturn rfl dX11_wrongPlace_42
      · refine aw_iconst 0 dX11_wrongPlace_37 (by decide) ?_
        refine aw_goto 42 dX11_wrongPlace_38 (by decide) ?_
        exact aw_ireturn rfl dX11_wrongPlace_42
    · refine aw_iconst 3 dX11_wrongPlace_21 (by decide) ?_
      exact aw_ireturn rfl dX11_wrongPlace_22
  · refine aw_iconst 1 dX11_wrongPlace_7 (by decide) ?_
    exact aw_ireturn rfl dX11_wrongPlace_8
def F10_put (σ : Mem) (t0 : Nat) (x1 : Int32) (y2 : Int64) : Option (Unit × Mem) :=
  if (F10_hasFrom σ t0 x1 1) = true then (if (gI σ 10 t0 0 1) = 0 then (chk 60 x1 <| bnd (sL σ 10 t0 1 (Int32.toNatClampNeg x1) (Int32.toInt64 (Int8.toInt32 (Int32.toInt8 (Int64.toInt32 y2))))) fun s_2 => some ((), s_2)) else if (gI σ 10 t0 0 1) = 1 then (chk 60 x1 <| bnd (sL σ 10 t0 1 (Int32.toNatClampNeg x1) (Int32.toInt64 (Int16.toInt32 (Int32.toInt16 (Int64.toInt32 y2))))) fun s_4 => some ((), s_4)) else if (gI σ 10 t0 0 1) = 2 then (chk 60 x1 <| bnd (sL σ 10 t0 1 (Int32.toNatClampNeg x1) (Int32.toInt64 (Int64.toInt32 y2))) fun s_6 => some ((), s_6)) else (chk 60 x1 <| bnd (sL σ 10 t0 1 (Int32.toNatClampNeg x1) y2) fun s_7 => some ((), s_7))) else (some ((), σ))
set_option maxRecDepth 20000 in
theorem c10_put {l : Launch} {D : va_G} {ad : Nat → Nat → Nat → Nat} {cid : Nat → Nat → Nat → ClassId} (σ : Mem) (t0 : Nat) (ht0 : t0 < 4) (x1 : Int32) (y2 : Int64) : AMF (XC l D ad cid) M10_put 1 eU [.ref (ad 10 t0 0), .int x1, .long y2] σ (F10_put σ t0 x1 y2) := by
  refine AM.ofW (by decide +kernel) (Nat.le_of_ble_eq_true rfl) (ls := [(0, .ref (ad 10 t0 0)), (1, .int x1), (2, .long y2)]) rfl ?_
  refine aw_entry ?_
  unfold F10_put
  refine aw_aload_n 0 dX10_put_0 rfl rfl ?_
  refine aw_iload_n 1 dX10_put_1 rfl rfl ?_
  refine aw_iconst 1 dX10_put_2 (by decide) ?_
  refine aw_callVT_B (c10_hasFrom σ t0 (by omega) x1 1) (io_10 (by omega)) ci_10 (by decide) mk_10_hasFrom w_824 w_825 w_831 rfl rfl (Nat.le_of_ble_eq_true rfl) dX10_put_3 ?_
  refine aw_bif_ne 10 dX10_put_6 (by decide) ?_ ?_
  · refine aw_aload_n 0 dX10_put_10 rfl rfl ?_
    refine aw_getf (fg_10_1 (by omega)) ci_10 (by decide) w_177 dX10_put_11 ?_
    refine aw_case (c := 0) (fun h_1 => ?_) (fun h_1 => ?_)
    · refine aw_tabIn 40 h_1 dX10_put_14 (by decide) (by decide) rfl (by decide) ?_
      refine aw_aload_n 0 dX10_put_40 rfl rfl ?_
      refine aw_getf (fg_10_3 (by omega)) ci_10 (by decide) w_180 dX10_put_41 ?_
      refine aw_iload_n 1 dX10_put_44 rfl rfl ?_
      refine aw_lload_n 2 dX10_put_45 rfl rfl ?_
      refine aw_l2i dX10_put_46 ?_
      refine aw_i2b dX10_put_47 ?_
      refine aw_i2l dX10_put_48 ?_
      refine aw_lastore (ar_10_1 (by omega)) dX10_put_49 ?_
      refine aw_bndM (fun s_2 => ?_)
      refine aw_goto 85 dX10_put_50 (by decide) ?_
      exact aw_return rfl dX10_put_85
    refine aw_case (c := 1) (fun h_3 => ?_) (fun h_3 => ?_)
    · refine aw_tabIn 53 h_3 dX10_put_14 (by decide) (by decide) rfl (by decide) ?_
      refine aw_aload_n 0 dX10_put_53 rfl rfl ?_
      refine aw_getf (fg_10_3 (by omega)) ci_10 (by decide) w_180 dX10_put_54 ?_
      refine aw_iload_n 1 dX10_put_57 rfl rfl ?_
      refine aw_lload_n 2 dX10_put_58 rfl rfl ?_
      refine aw_l2i dX10_put_59 ?_
      refine aw_i2s dX10_put_60 ?_
      refine aw_i2l dX10_put_61 ?_
      refine aw_lastore (ar_10_1 (by omega)) dX10_put_62 ?_
      refine aw_bndM (fun s_4 => ?_)
      refine aw_goto 85 dX10_put_63 (by decide) ?_
      exact aw_return rfl dX10_put_85
    refine aw_case (c := 2) (fun h_5 => ?_) (fun h_5 => ?_)
    · refine aw_tabIn 66 h_5 dX10_put_14 (by decide) (by decide) rfl (by decide) ?_
      refine aw_aload_n 0 dX10_put_66 rfl rfl ?_
      refine aw_getf (fg_10_3 (by omega)) ci_10 (by decide) w_180 dX10_put_67 ?_
      refine aw_iload_n 1 dX10_put_70 rfl rfl ?_
      refine aw_lload_n 2 dX10_put_71 rfl rfl ?_
      refine aw_l2i dX10_put_72 ?_
      refine aw_i2l dX10_put_73 ?_
      refine aw_lastore (ar_10_1 (by omega)) dX10_put_74 ?_
      refine aw_bndM (fun s_6 => ?_)
      refine aw_goto 85 dX10_put_75 (by decide) ?_
      exact aw_return rfl dX10_put_85
    refine aw_tabOut 78 dX10_put_14 (by have eh_1 : (gI σ 10 t0 0 1).toInt ≠ 0 := ne_toInt h_1; have eh_3 : (gI σ 10 t0 0 1).toInt ≠ 1 := ne_toInt h_3; have eh_5 : (gI σ 10 t0 0 1).toInt ≠ 2 := ne_toInt h_5; omega) (by decide) ?_
    refine aw_aload_n 0 dX10_put_78 rfl rfl ?_
    refine aw_getf (fg_10_3 (by omega)) ci_10 (by decide) w_180 dX10_put_79 ?_
    refine aw_iload_n 1 dX10_put_82 rfl rfl ?_
    refine aw_lload_n 2 dX10_put_83 rfl rfl ?_
    refine aw_lastore (ar_10_1 (by omega)) dX10_put_84 ?_
    refine aw_bndM (fun s_7 => ?_)
    exact aw_return rfl dX10_put_85
  · exact aw_return rfl dX10_put_9
def F11_write (σ : Mem) (x1 : Int32) (x2 : Int32) (y3 : Int64) : Option (Bool × Mem) :=
  (F11_wrongPlace σ x1 x2).bind fun v_1 => if v_1 = 0 then ((ald 4 id x1).bind fun t_2 => bd (F10_put σ t_2 x2 y3) fun _ s_3 => bd (F11_agree s_3) fun v_4 s_5 => some (v_4, s_5)) else (bd (F11_deny σ v_1) fun v_6 s_7 => some (v_6, s_7))
set_option maxRecDepth 20000 in
theorem c11_write {l : Launch} {D : va_G} {ad : Nat → Nat → Nat → Nat} {cid : Nat → Nat → Nat → ClassId} (σ : Mem) (x1 : Int32) (x2 : Int32) (y3 : Int64) : AMF (XC l D ad cid) M11_write 3 eB [.ref (ad 11 0 0), .int x1, .int x2, .long y3] σ (F11_write σ x1 x2 y3) := by
  refine AM.ofW (by decide +kernel) (Nat.le_of_ble_eq_true rfl) (ls := [(0, .ref (ad 11 0 0)), (1, .int x1), (2, .int x2), (3, .long y3)]) rfl ?_
  refine aw_entry ?_
  unfold F11_write
  refine aw_aload_n 0 dX11_write_0 rfl rfl ?_
  refine aw_iload_n 1 dX11_write_1 rfl rfl ?_
  refine aw_iload_n 2 dX11_write_2 rfl rfl ?_
  refine aw_callVO_I (c11_wrongPlace σ x1 x2) (io_11 (by decide)) ci_11 (by decide) mk_11_wrongPlace w_821 w_2 w_819 rfl rfl (Nat.le_of_ble_eq_true rfl) dX11_write_3 (fun v_1 => ?_)
  refine aw_istore (ls' := [(0, .ref (ad 11 0 0)), (1, .int x1), (2, .int x2), (3, .long y3), (5, .int v_1)]) [1, 2, 3, 4, 0] dX11_write_6 (by decide) rfl ?_
  refine aw_iload 4 dX11_write_8 rfl ?_
  refine aw_if_eq 20 dX11_write_10 (by decide) ?_ ?_
  · refine aw_aload_n 0 dX11_write_20 rfl rfl ?_
    refine aw_getf (fg_11_3 (by decide)) ci_11 (by decide) w_720 dX11_write_21 ?_
    refine aw_iload_n 1 dX11_write_24 rfl rfl ?_
    refine aw_aaload (ar_11_1 (by decide)) dX11_write_25 (fun t_2 ht_2 => ?_)
    refine aw_iload_n 2 dX11_write_26 rfl rfl ?_
    refine aw_lload_n 3 dX11_write_27 rfl rfl ?_
    refine aw_callVW_U (c10_put σ t_2 (by omega) x2 y3) (io_10 (by omega)) ci_10 (by decide) mk_10_put w_828 w_829 w_827 rfl rfl (Nat.le_of_ble_eq_true rfl) dX11_write_28 (fun _ s_3 => ?_)
    refine aw_aload_n 0 dX11_write_31 rfl rfl ?_
    refine aw_callVW_B (c11_agree s_3 ) (io_11 (by decide)) ci_11 (by decide) mk_11_agree w_813 w_1 w_811 rfl rfl (Nat.le_of_ble_eq_true rfl) dX11_write_32 (fun v_4 s_5 => ?_)
    exact aw_zreturn (b := v_4) rfl rfl dX11_write_35
  · refine aw_aload_n 0 dX11_write_13 rfl rfl ?_
    refine aw_iload 4 dX11_write_14 rfl ?_
    refine aw_callVW_B (c11_deny σ v_1) (io_11 (by decide)) ci_11 (by decide) mk_11_deny w_802 w_0 w_800 rfl rfl (Nat.le_of_ble_eq_true rfl) dX11_write_16 (fun v_6 s_7 => ?_)
    exact aw_zreturn (b := v_6) rfl rfl dX11_write_19
def F11_refuse (σ : Mem) (x1 : Int32) : Option (Int32 × Mem) :=
  bnd (sI σ 11 0 0 0 x1) fun s_1 => some ((-1), s_1)
set_option maxRecDepth 20000 in
theorem c11_refuse {l : Launch} {D : va_G} {ad : Nat → Nat → Nat → Nat} {cid : Nat → Nat → Nat → ClassId} (σ : Mem) (x1 : Int32) : AMF (XC l D ad cid) M11_refuse 0 eI [.ref (ad 11 0 0), .int x1] σ (F11_refuse σ x1) := by
  refine AM.ofW (by decide +kernel) (Nat.le_of_ble_eq_true rfl) (ls := [(0, .ref (ad 11 0 0)), (1, .int x1)]) rfl ?_
  refine aw_entry ?_
  unfold F11_refuse
  refine aw_aload_n 0 dX11_refuse_0 rfl rfl ?_
  refine aw_iload_n 1 dX11_refuse_1 rfl rfl ?_
  refine aw_putI (fs_11_0 (by decide)) ci_11 (by decide) rfl rfl w_717 dX11_refuse_2 ?_
  refine aw_bndM (fun s_1 => ?_)
  refine aw_iconst (-1) dX11_refuse_5 (by decide) ?_
  exact aw_ireturn rfl dX11_refuse_6
def F11_read (σ : Mem) (x1 : Int32) (x2 : Int32) : Option (Int64 × Mem) :=
  (F11_wrongPlace σ x1 x2).bind fun v_1 => if v_1 = 0 then (bnd (sI σ 11 0 0 0 0) fun s_2 => (ald 4 id x1).bind fun t_3 => (ald 60 (gL s_2 10 t_3 1) x2).bind fun v_4 => some (v_4, s_2)) else (bd (F11_refuse σ v_1) fun v_5 s_6 => some ((Int32.toInt64 v_5), s_6))
set_option maxRecDepth 20000 in
theorem c11_read {l : Launch} {D : va_G} {ad : Nat → Nat → Nat → Nat} {cid : Nat → Nat → Nat → ClassId} (σ : Mem) (x1 : Int32) (x2 : Int32) : AMF (XC l D ad cid) M11_read 3 eL [.ref (ad 11 0 0), .int x1, .int x2] σ (F11_read σ x1 x2) := by
  refine AM.ofW (by decide +kernel) (Nat.le_of_ble_eq_true rfl) (ls := [(0, .ref (ad 11 0 0)), (1, .int x1), (2, .int x2)]) rfl ?_
  refine aw_entry ?_
  unfold F11_read
  refine aw_aload_n 0 dX11_read_0 rfl rfl ?_
  refine aw_iload_n 1 dX11_read_1 rfl rfl ?_
  refine aw_iload_n 2 dX11_read_2 rfl rfl ?_
  refine aw_callVO_I (c11_wrongPlace σ x1 x2) (io_11 (by decide)) ci_11 (by decide) mk_11_wrongPlace w_821 w_2 w_819 rfl rfl (Nat.le_of_ble_eq_true rfl) dX11_read_3 (fun v_1 => ?_)
  refine aw_istore_n (ls' := [(0, .ref (ad 11 0 0)), (1, .int x1), (2, .int x2), (3, .int v_1)]) [1, 2, 3, 0] dX11_read_6 rfl (by decide) rfl ?_
  refine aw_iload_n 3 dX11_read_7 rfl rfl ?_
  refine aw_if_eq 18 dX11_read_8 (by decide) ?_ ?_
  · refine aw_aload_n 0 dX11_read_18 rfl rfl ?_
    refine aw_iconst 0 dX11_read_19 (by decide) ?_
    refine aw_putI (fs_11_0 (by decide)) ci_11 (by decide) rfl rfl w_717 dX11_read_20 ?_
    refine aw_bndM (fun s_2 => ?_)
    refine aw_aload_n 0 dX11_read_23 rfl rfl ?_
    refine aw_getf (fg_11_3 (by decide)) ci_11 (by decide) w_720 dX11_read_24 ?_
    refine aw_iload_n 1 dX11_read_27 rfl rfl ?_
    refine aw_aaload (ar_11_1 (by decide)) dX11_read_28 (fun t_3 ht_3 => ?_)
    refine aw_getf (fg_10_3 (by omega)) ci_10 (by decide) w_181 dX11_read_29 ?_
    refine aw_iload_n 2 dX11_read_32 rfl rfl ?_
    refine aw_laload (ar_10_1 (by omega)) dX11_read_33 (fun v_4 => ?_)
    exact aw_lreturn rfl dX11_read_34
  · refine aw_aload_n 0 dX11_read_11 rfl rfl ?_
    refine aw_iload_n 3 dX11_read_12 rfl rfl ?_
    refine aw_callVW_I (c11_refuse σ v_1) (io_11 (by decide)) ci_11 (by decide) mk_11_refuse w_838 w_3 w_836 rfl rfl (Nat.le_of_ble_eq_true rfl) dX11_read_13 (fun v_5 s_6 => ?_)
    refine aw_i2l dX11_read_16 ?_
    exact aw_lreturn rfl dX11_read_17
def F11_pour (σ : Mem) (x1 : Int32) (x2 : Int32) (x3 : Int32) (x4 : Int32) (x5 : Int32) : Option (Bool × Mem) :=
  if (F11_isTray x1) = true then (if (F11_isTray x3) = true then ((ald 4 id x1).bind fun t_3 => (ald 4 id x3).bind fun t_4 => if (gB σ 10 t_3 0 0) = true then (if (gB σ 10 t_4 0 0) = true then (if (gI σ 10 t_3 0 1) = (gI σ 10 t_4 0 1) then (if 0 ≤ x5 then (if (F10_hasFrom σ t_3 x2 x5) = true then (if (F10_hasFrom σ t_4 x4 x5) = true then (chkC 60 60 x2 x4 x5 <| bnd (sLf σ 10 t_4 1 (va_cpy (gL σ 10 t_3 1) (gL σ 10 t_4 1) (Int32.toNatClampNeg x2) (Int32.toNatClampNeg x4) (Int32.toNatClampNeg x5))) fun s_9 => bd (F11_agree s_9) fun v_10 s_11 => some (v_10, s_11)) else (bd (F11_deny σ 4) fun v_12 s_13 => some (v_12, s_13))) else (bd (F11_deny σ 4) fun v_7 s_8 => some (v_7, s_8))) else (bd (F11_deny σ 6) fun v_14 s_15 => some (v_14, s_15))) else (bd (F11_deny σ 11) fun v_16 s_17 => some (v_16, s_17))) else (bd (F11_deny σ 3) fun v_18 s_19 => some (v_18, s_19))) else (bd (F11_deny σ 3) fun v_5 s_6 => some (v_5, s_6))) else (bd (F11_deny σ 1) fun v_20 s_21 => some (v_20, s_21))) else (bd (F11_deny σ 1) fun v_1 s_2 => some (v_1, s_2))
set_option maxRecDepth 20000 in
theorem c11_pour {l : Launch} {D : va_G} {ad : Nat → Nat → Nat → Nat} {cid : Nat → Nat → Nat → ClassId} (σ : Mem) (x1 : Int32) (x2 : Int32) (x3 : Int32) (x4 : Int32) (x5 : Int32) : AMF (XC l D ad cid) M11_pour 2 eB [.ref (ad 11 0 0), .int x1, .int x2, .int x3, .int x4, .int x5] σ (F11_pour σ x1 x2 x3 x4 x5) := by
  refine AM.ofW (by decide +kernel) (Nat.le_of_ble_eq_true rfl) (ls := [(0, .ref (ad 11 0 0)), (1, .int x1), (2, .int x2), (3, .int x3), (4, .int x4), (5, .int x5)]) rfl ?_
  refine aw_entry ?_
  unfold F11_pour
  refine aw_iload_n 1 dX11_pour_0 rfl rfl ?_
  refine aw_callST_B (c11_isTray σ x1) (by decide) mk_11_isTray w_795 w_794 rfl rfl (Nat.le_of_ble_eq_true rfl) dX11_pour_1 ?_
  refine aw_bif_eq 14 dX11_pour_4 (by decide) ?_ ?_
  · refine aw_aload_n 0 dX11_pour_14 rfl rfl ?_
    refine aw_iconst 1 dX11_pour_15 (by decide) ?_
    refine aw_callVW_B (c11_deny σ 1) (io_11 (by decide)) ci_11 (by decide) mk_11_deny w_802 w_0 w_800 rfl rfl (Nat.le_of_ble_eq_true rfl) dX11_pour_16 (fun v_1 s_2 => ?_)
    exact aw_zreturn (b := v_1) rfl rfl dX11_pour_19
  · refine aw_iload_n 3 dX11_pour_7 rfl rfl ?_
    refine aw_callST_B (c11_isTray σ x3) (by decide) mk_11_isTray w_795 w_794 rfl rfl (Nat.le_of_ble_eq_true rfl) dX11_pour_8 ?_
    refine aw_bif_ne 20 dX11_pour_11 (by decide) ?_ ?_
    · refine aw_aload_n 0 dX11_pour_20 rfl rfl ?_
      refine aw_getf (fg_11_3 (by decide)) ci_11 (by decide) w_720 dX11_pour_21 ?_
      refine aw_iload_n 1 dX11_pour_24 rfl rfl ?_
      refine aw_aaload (ar_11_1 (by decide)) dX11_pour_25 (fun t_3 ht_3 => ?_)
      refine aw_astore (ls' := [(0, .ref (ad 11 0 0)), (2, .int x2), (3, .int x3), (4, .int x4), (5, .int x5), (6, .ref (ad 10 t_3 0))]) [1, 3, 4, 5, 6, 0] dX11_pour_26 (by decide) rfl ?_
      refine aw_aload_n 0 dX11_pour_28 rfl rfl ?_
      refine aw_getf (fg_11_3 (by decide)) ci_11 (by decide) w_720 dX11_pour_29 ?_
      refine aw_iload_n 2 dX11_pour_32 rfl rfl ?_
      refine aw_aaload (ar_11_1 (by decide)) dX11_pour_33 (fun t_4 ht_4 => ?_)
      refine aw_astore (ls' := [(0, .ref (ad 11 0 0)), (2, .int x2), (4, .int x4), (5, .int x5), (6, .ref (ad 10 t_3 0)), (7, .ref (ad 10 t_4 0))]) [1, 2, 4, 5, 6, 0] dX11_pour_34 (by decide) rfl ?_
      refine aw_aload 4 dX11_pour_36 rfl ?_
      refine aw_getf (fg_10_0 (by omega)) ci_10 (by decide) w_176 dX11_pour_38 ?_
      refine aw_bif_eq 52 dX11_pour_41 (by decide) ?_ ?_
      · refine aw_aload_n 0 dX11_pour_52 rfl rfl ?_
        refine aw_iconst 3 dX11_pour_53 (by decide) ?_
        refine aw_callVW_B (c11_deny σ 3) (io_11 (by decide)) ci_11 (by decide) mk_11_deny w_802 w_0 w_800 rfl rfl (Nat.le_of_ble_eq_true rfl) dX11_pour_54 (fun v_5 s_6 => ?_)
        exact aw_zreturn (b := v_5) rfl rfl dX11_pour_57
      · refine aw_aload 5 dX11_pour_44 rfl ?_
        refine aw_getf (fg_10_0 (by omega)) ci_10 (by decide) w_176 dX11_pour_46 ?_
        refine aw_bif_ne 58 dX11_pour_49 (by decide) ?_ ?_
        · refine aw_aload 4 dX11_pour_58 rfl ?_
          refine aw_getf (fg_10_1 (by omega)) ci_10 (by decide) w_178 dX11_pour_60 ?_
          refine aw_aload 5 dX11_pour_63 rfl ?_
          refine aw_getf (fg_10_1 (by omega)) ci_10 (by decide) w_178 dX11_pour_65 ?_
          refine aw_icmp_eq 78 dX11_pour_68 (by decide) ?_ ?_
          · refine aw_iload 3 dX11_pour_78 rfl ?_
            refine aw_if_ge 90 dX11_pour_80 (by decide) ?_ ?_
            · refine aw_aload 4 dX11_pour_90 rfl ?_
              refine aw_iload_n 1 dX11_pour_92 rfl rfl ?_
              refine aw_iload 3 dX11_pour_93 rfl ?_
              refine aw_callVT_B (c10_hasFrom σ t_3 (by omega) x2 x5) (io_10 (by omega)) ci_10 (by decide) mk_10_hasFrom w_824 w_825 w_823 rfl rfl (Nat.le_of_ble_eq_true rfl) dX11_pour_95 ?_
              refine aw_bif_eq 113 dX11_pour_98 (by decide) ?_ ?_
              · refine aw_aload_n 0 dX11_pour_113 rfl rfl ?_
                refine aw_iconst 4 dX11_pour_114 (by decide) ?_
                refine aw_callVW_B (c11_deny σ 4) (io_11 (by decide)) ci_11 (by decide) mk_11_deny w_802 w_0 w_800 rfl rfl (Nat.le_of_ble_eq_true rfl) dX11_pour_115 (fun v_7 s_8 => ?_)
                exact aw_zreturn (b := v_7) rfl rfl dX11_pour_118
              · refine aw_aload 5 dX11_pour_101 rfl ?_
                refine aw_iload 2 dX11_pour_103 rfl ?_
                refine aw_iload 3 dX11_pour_105 rfl ?_
                refine aw_callVT_B (c10_hasFrom σ t_4 (by omega) x4 x5) (io_10 (by omega)) ci_10 (by decide) mk_10_hasFrom w_824 w_825 w_823 rfl rfl (Nat.le_of_ble_eq_true rfl) dX11_pour_107 ?_
                refine aw_bif_ne 119 dX11_pour_110 (by decide) ?_ ?_
                · refine aw_aload 4 dX11_pour_119 rfl ?_
                  refine aw_getf (fg_10_3 (by omega)) ci_10 (by decide) w_181 dX11_pour_121 ?_
                  refine aw_iload_n 1 dX11_pour_124 rfl rfl ?_
                  refine aw_aload 5 dX11_pour_125 rfl ?_
                  refine aw_getf (fg_10_3 (by omega)) ci_10 (by decide) w_181 dX11_pour_127 ?_
                  refine aw_iload 2 dX11_pour_130 rfl ?_
                  refine aw_iload 3 dX11_pour_132 rfl ?_
                  refine aw_copyL (ar_10_1 (by omega)) (ar_10_1 (by omega)) w_844 w_846 w_845 w_158 (Nat.le_of_ble_eq_true rfl) dX11_pour_134 ?_
                  refine aw_bndM (fun s_9 => ?_)
                  refine aw_aload_n 0 dX11_pour_137 rfl rfl ?_
                  refine aw_callVW_B (c11_agree s_9 ) (io_11 (by decide)) ci_11 (by decide) mk_11_agree w_813 w_1 w_811 rfl rfl (Nat.le_of_ble_eq_true rfl) dX11_pour_138 (fun v_10 s_11 => ?_)
                  exact aw_zreturn (b := v_10) rfl rfl dX11_pour_141
                · refine aw_aload_n 0 dX11_pour_113 rfl rfl ?_
                  refine aw_iconst 4 dX11_pour_114 (by decide) ?_
                  refine aw_callVW_B (c11_deny σ 4) (io_11 (by decide)) ci_11 (by decide) mk_11_deny w_802 w_0 w_800 rfl rfl (Nat.le_of_ble_eq_true rfl) dX11_pour_115 (fun v_12 s_13 => ?_)
                  exact aw_zreturn (b := v_12) rfl rfl dX11_pour_118
            · refine aw_aload_n 0 dX11_pour_83 rfl rfl ?_
              refine aw_bipush 6 dX11_pour_84 (by decide) ?_
              refine aw_callVW_B (c11_deny σ 6) (io_11 (by decide)) ci_11 (by decide) mk_11_deny w_802 w_0 w_800 rfl rfl (Nat.le_of_ble_eq_true rfl) dX11_pour_86 (fun v_14 s_15 => ?_)
              exact aw_zreturn (b := v_14) rfl rfl dX11_pour_89
          · refine aw_aload_n 0 dX11_pour_71 rfl rfl ?_
            refine aw_bipush 11 dX11_pour_72 (by decide) ?_
            refine aw_callVW_B (c11_deny σ 11) (io_11 (by decide)) ci_11 (by decide) mk_11_deny w_802 w_0 w_800 rfl rfl (Nat.le_of_ble_eq_true rfl) dX11_pour_74 (fun v_16 s_17 => ?_)
            exact aw_zreturn (b := v_16) rfl rfl dX11_pour_77
        · refine aw_aload_n 0 dX11_pour_52 rfl rfl ?_
          refine aw_iconst 3 dX11_pour_53 (by decide) ?_
          refine aw_callVW_B (c11_deny σ 3) (io_11 (by decide)) ci_11 (by decide) mk_11_deny w_802 w_0 w_800 rfl rfl (Nat.le_of_ble_eq_true rfl) dX11_pour_54 (fun v_18 s_19 => ?_)
          exact aw_zreturn (b := v_18) rfl rfl dX11_pour_57
    · refine aw_aload_n 0 dX11_pour_14 rfl rfl ?_
      refine aw_iconst 1 dX11_pour_15 (by decide) ?_
      refine aw_callVW_B (c11_deny σ 1) (io_11 (by decide)) ci_11 (by decide) mk_11_deny w_802 w_0 w_800 rfl rfl (Nat.le_of_ble_eq_true rfl) dX11_pour_16 (fun v_20 s_21 => ?_)
      exact aw_zreturn (b := v_20) rfl rfl dX11_pour_19
def F8_append_L3 (x1 : Int32) : Nat → Mem → Int32 → Option ((Unit) × Mem)
  | 0 => fun _ _ => none
  | n + 1 => fun σ x2 =>
    if x2 < 0 then (some ((), σ)) else (if 900 ≤ (gI σ 8 0 0 1) then (some ((), σ)) else (chk 900 (gI σ 8 0 0 1) <| bnd (sI σ 8 0 1 (Int32.toNatClampNeg (gI σ 8 0 0 1)) (vp_nar .byte (Int8.toInt32 (Int32.toInt8 (x1 >>> (x2 &&& 31)))))) fun s_1 => bnd (sI s_1 8 0 0 1 ((gI s_1 8 0 0 1) + 1)) fun s_2 => (F8_append_L3 x1 n) s_2 (x2 + (-8))))
set_option maxRecDepth 20000 in
theorem c8_append_L3 {l : Launch} {D : va_G} {ad : Nat → Nat → Nat → Nat} {cid : Nat → Nat → Nat → ClassId} {α : Type} {emb : α → Option Value} (x1 : Int32) {G : Unit → Mem → Option (α × Mem)} (kx : ∀ r σ, AW (XC l D ad cid) M8_append 0 emb [] 46 [] σ (G r σ)) : ∀ (n : Nat) (σ : Mem) (x2 : Int32), AW (XC l D ad cid) M8_append 0 emb [(0, .ref (ad 8 0 0)), (1, .int x1), (2, .int x2)] 3 [] σ (bd (F8_append_L3 x1 n σ x2) G) := by
  intro n
  induction n with
  | zero => intros; exact aw_none
  | succ n ih =>
    intro σ x2
    refine aw_bdB ?_
    rw [F8_append_L3.eq_2]
    refine aw_iload_n 2 dX8_append_3 rfl rfl ?_
    refine aw_if_lt 46 dX8_append_4 (by decide) ?_ ?_
    · refine aw_ls (ls' := []) [] rfl ?_
      exact kx () σ
    · refine aw_aload_n 0 dX8_append_7 rfl rfl ?_
      refine aw_getf (fg_8_1 (by decide)) ci_8 (by decide) w_255 dX8_append_8 ?_
      refine aw_sipush 900 dX8_append_11 (by decide) ?_
      refine aw_icmp_ge 46 dX8_append_14 (by decide) ?_ ?_
      · refine aw_ls (ls' := []) [] rfl ?_
        exact kx () σ
      · refine aw_aload_n 0 dX8_append_17 rfl rfl ?_
        refine aw_getf (fg_8_0 (by decide)) ci_8 (by decide) w_254 dX8_append_18 ?_
        refine aw_aload_n 0 dX8_append_21 rfl rfl ?_
        refine aw_getf (fg_8_1 (by decide)) ci_8 (by decide) w_255 dX8_append_22 ?_
        refine aw_iload_n 1 dX8_append_25 rfl rfl ?_
        refine aw_iload_n 2 dX8_append_26 rfl rfl ?_
        refine aw_ishr dX8_append_27 ?_
        refine aw_i2b dX8_append_28 ?_
        refine aw_bastore (ar_8_1 (by decide)) dX8_append_29 ?_
        refine aw_bndM (fun s_1 => ?_)
        refine aw_aload_n 0 dX8_append_30 rfl rfl ?_
        refine aw_dup dX8_append_31 rfl ?_
        refine aw_getf (fg_8_1 (by decide)) ci_8 (by decide) w_255 dX8_append_32 ?_
        refine aw_iconst 1 dX8_append_35 (by decide) ?_
        refine aw_iadd dX8_append_36 ?_
        refine aw_putI (fs_8_1 (by decide)) ci_8 (by decide) rfl rfl w_255 dX8_append_37 ?_
        refine aw_bndM (fun s_2 => ?_)
        refine aw_iinc (ls' := [(0, .ref (ad 8 0 0)), (1, .int x1), (2, .int (x2 + (-8)))]) (x2 + (-8)) 2 [1, 2, 0] dX8_append_40 rfl (by rfl) (by decide) rfl ?_
        refine aw_goto 3 dX8_append_43 (by decide) ?_
        exact ih s_2 (x2 + (-8))
def F8_append (σ : Mem) (x1 : Int32) : Option (Unit × Mem) :=
  bd (F8_append_L3 x1 fuelK σ 24) fun r_3 s_4 => some ((), s_4)
set_option maxRecDepth 20000 in
theorem c8_append {l : Launch} {D : va_G} {ad : Nat → Nat → Nat → Nat} {cid : Nat → Nat → Nat → ClassId} (σ : Mem) (x1 : Int32) : AMF (XC l D ad cid) M8_append 0 eU [.ref (ad 8 0 0), .int x1] σ (F8_append σ x1) := by
  refine AM.ofW (by decide +kernel) (Nat.le_of_ble_eq_true rfl) (ls := [(0, .ref (ad 8 0 0)), (1, .int x1)]) rfl ?_
  refine aw_entry ?_
  unfold F8_append
  refine aw_bipush 24 dX8_append_0 (by decide) ?_
  refine aw_istore_n (ls' := [(0, .ref (ad 8 0 0)), (1, .int x1), (2, .int 24)]) [1, 2, 0] dX8_append_2 rfl (by decide) rfl ?_
  refine aw_assocW ?_
  refine c8_append_L3 x1 (fun r_3 s_4 => ?_) fuelK σ 24
  exact aw_return rfl dX8_append_46
def F11_feed (σ : Mem) (x1 : Int32) (x2 : Int32) (x3 : Int32) (x4 : Int32) (x5 : Int32) : Option (Int32 × Mem) :=
  if ((gI σ 8 0 0 1) + 20) ≤ 900 then (bd (F8_append σ x1) fun _ s_1 => bd (F8_append s_1 x2) fun _ s_2 => bd (F8_append s_2 x3) fun _ s_3 => bd (F8_append s_3 x4) fun _ s_4 => bd (F8_append s_4 x5) fun _ s_5 => some ((gI s_5 8 0 0 1), s_5)) else (some ((-1), σ))
set_option maxRecDepth 20000 in
theorem c11_feed {l : Launch} {D : va_G} {ad : Nat → Nat → Nat → Nat} {cid : Nat → Nat → Nat → ClassId} (σ : Mem) (x1 : Int32) (x2 : Int32) (x3 : Int32) (x4 : Int32) (x5 : Int32) : AMF (XC l D ad cid) M11_feed 1 eI [.ref (ad 11 0 0), .int x1, .int x2, .int x3, .int x4, .int x5] σ (F11_feed σ x1 x2 x3 x4 x5) := by
  refine AM.ofW (by decide +kernel) (Nat.le_of_ble_eq_true rfl) (ls := [(0, .ref (ad 11 0 0)), (1, .int x1), (2, .int x2), (3, .int x3), (4, .int x4), (5, .int x5)]) rfl ?_
  refine aw_entry ?_
  unfold F11_feed
  refine aw_aload_n 0 dX11_feed_0 rfl rfl ?_
  refine aw_getf (fg_11_4 (by decide)) ci_11 (by decide) w_721 dX11_feed_1 ?_
  refine aw_getf (fg_8_1 (by decide)) ci_8 (by decide) w_256 dX11_feed_4 ?_
  refine aw_bipush 20 dX11_feed_7 (by decide) ?_
  refine aw_iadd dX11_feed_9 ?_
  refine aw_sipush 900 dX11_feed_10 (by decide) ?_
  refine aw_icmp_le 18 dX11_feed_13 (by decide) ?_ ?_
  · refine aw_aload_n 0 dX11_feed_18 rfl rfl ?_
    refine aw_getf (fg_11_4 (by decide)) ci_11 (by decide) w_721 dX11_feed_19 ?_
    refine aw_iload_n 1 dX11_feed_22 rfl rfl ?_
    refine aw_callVW_U (c8_append σ x1) (io_8 (by decide)) ci_8 (by decide) mk_8_append w_852 w_853 w_851 rfl rfl (Nat.le_of_ble_eq_true rfl) dX11_feed_23 (fun _ s_1 => ?_)
    refine aw_aload_n 0 dX11_feed_26 rfl rfl ?_
    refine aw_getf (fg_11_4 (by decide)) ci_11 (by decide) w_721 dX11_feed_27 ?_
    refine aw_iload_n 2 dX11_feed_30 rfl rfl ?_
    refine aw_callVW_U (c8_append s_1 x2) (io_8 (by decide)) ci_8 (by decide) mk_8_append w_852 w_853 w_851 rfl rfl (Nat.le_of_ble_eq_true rfl) dX11_feed_31 (fun _ s_2 => ?_)
    refine aw_aload_n 0 dX11_feed_34 rfl rfl ?_
    refine aw_getf (fg_11_4 (by decide)) ci_11 (by decide) w_721 dX11_feed_35 ?_
    refine aw_iload_n 3 dX11_feed_38 rfl rfl ?_
    refine aw_callVW_U (c8_append s_2 x3) (io_8 (by decide)) ci_8 (by decide) mk_8_append w_852 w_853 w_851 rfl rfl (Nat.le_of_ble_eq_true rfl) dX11_feed_39 (fun _ s_3 => ?_)
    refine aw_aload_n 0 dX11_feed_42 rfl rfl ?_
    refine aw_getf (fg_11_4 (by decide)) ci_11 (by decide) w_721 dX11_feed_43 ?_
    refine aw_iload 4 dX11_feed_46 rfl ?_
    refine aw_callVW_U (c8_append s_3 x4) (io_8 (by decide)) ci_8 (by decide) mk_8_append w_852 w_853 w_851 rfl rfl (Nat.le_of_ble_eq_true rfl) dX11_feed_48 (fun _ s_4 => ?_)
    refine aw_aload_n 0 dX11_feed_51 rfl rfl ?_
    refine aw_getf (fg_11_4 (by decide)) ci_11 (by decide) w_721 dX11_feed_52 ?_
    refine aw_iload 5 dX11_feed_55 rfl ?_
    refine aw_callVW_U (c8_append s_4 x5) (io_8 (by decide)) ci_8 (by decide) mk_8_append w_852 w_853 w_851 rfl rfl (Nat.le_of_ble_eq_true rfl) dX11_feed_57 (fun _ s_5 => ?_)
    refine aw_aload_n 0 dX11_feed_60 rfl rfl ?_
    refine aw_getf (fg_11_4 (by decide)) ci_11 (by decide) w_721 dX11_feed_61 ?_
    refine aw_getf (fg_8_1 (by decide)) ci_8 (by decide) w_256 dX11_feed_64 ?_
    exact aw_ireturn rfl dX11_feed_67
  · refine aw_iconst (-1) dX11_feed_16 (by decide) ?_
    exact aw_ireturn rfl dX11_feed_17
def F8_isLetter (x0 : Int32) : Bool :=
  if x0 < 97 then (false) else (if 122 < x0 then (false) else (true))
set_option maxRecDepth 20000 in
theorem c8_isLetter {l : Launch} {D : va_G} {ad : Nat → Nat → Nat → Nat} {cid : Nat → Nat → Nat → ClassId} (σ : Mem) (x0 : Int32) : AMF (XC l D ad cid) M8_isLetter 0 eB [.int x0] σ (some (F8_isLetter x0, σ)) := by
  refine AM.ofW (by decide +kernel) (Nat.le_of_ble_eq_true rfl) (ls := [(0, .int x0)]) rfl ?_
  refine aw_entryT ?_
  unfold F8_isLetter
  refine aw_iload_n 0 dX8_isLetter_0 rfl rfl ?_
  refine aw_bipush 97 dX8_isLetter_1 (by decide) ?_
  refine aw_iteT ?_
  refine aw_icmp_lt 16 dX8_isLetter_3 (by decide) ?_ ?_
  · refine aw_iconst 0 dX8_isLetter_16 (by decide) ?_
    exact aw_zreturn (b := false) rfl rfl dX8_isLetter_17
  · refine aw_iload_n 0 dX8_isLetter_6 rfl rfl ?_
    refine aw_bipush 122 dX8_isLetter_7 (by decide) ?_
    refine aw_iteT ?_
    refine aw_icmp_gt 16 dX8_isLetter_9 (by decide) ?_ ?_
    · refine aw_iconst 0 dX8_isLetter_16 (by decide) ?_
      exact aw_zreturn (b := false) rfl rfl dX8_isLetter_17
    · refine aw_iconst 1 dX8_isLetter_12 (by decide) ?_
      refine aw_goto 17 dX8_isLetter_13 (by decide) ?_
      exact aw_zreturn (b := true) rfl rfl dX8_isLetter_17
def F8_withLetter (y0 : Int64) (x2 : Int32) : Int64 :=
  ((y0 * 32) + (Int32.toInt64 ((x2 - 97) + 1)))
set_option maxRecDepth 20000 in
theorem c8_withLetter {l : Launch} {D : va_G} {ad : Nat → Nat → Nat → Nat} {cid : Nat → Nat → Nat → ClassId} (σ : Mem) (y0 : Int64) (x2 : Int32) : AMF (XC l D ad cid) M8_withLetter 0 eL [.long y0, .int x2] σ (some (F8_withLetter y0 x2, σ)) := by
  refine AM.ofW (by decide +kernel) (Nat.le_of_ble_eq_true rfl) (ls := [(0, .long y0), (2, .int x2)]) rfl ?_
  refine aw_entryT ?_
  unfold F8_withLetter
  refine aw_lload_n 0 dX8_withLetter_0 rfl rfl ?_
  refine aw_ldc2 w_253 dX8_withLetter_1 ?_
  refine aw_lmul dX8_withLetter_4 ?_
  refine aw_iload_n 1 dX8_withLetter_5 rfl rfl ?_
  refine aw_bipush 97 dX8_withLetter_6 (by decide) ?_
  refine aw_isub dX8_withLetter_8 ?_
  refine aw_iconst 1 dX8_withLetter_9 (by decide) ?_
  refine aw_iadd dX8_withLetter_10 ?_
  refine aw_i2l dX8_withLetter_11 ?_
  refine aw_ladd dX8_withLetter_12 ?_
  exact aw_lreturn rfl dX8_withLetter_13
def F8_scanWord_L2  : Nat → Mem → Int64 → Option ((Int64) × Mem)
  | 0 => fun _ _ => none
  | n + 1 => fun σ y1 =>
    if (gI σ 8 0 0 10) ≤ (gI σ 8 0 0 11) then (some (y1, σ)) else ((ald 900 (gI σ 8 0 1) (gI σ 8 0 0 11)).bind fun v_1 => if (F8_isLetter v_1) = true then ((ald 900 (gI σ 8 0 1) (gI σ 8 0 0 11)).bind fun v_2 => bnd (F8_withLetter y1 v_2) fun v_3 => bnd (sI σ 8 0 0 11 ((gI σ 8 0 0 11) + 1)) fun s_4 => (F8_scanWord_L2  n) s_4 v_3) else (some (y1, σ)))
set_option maxRecDepth 20000 in
theorem c8_scanWord_L2 {l : Launch} {D : va_G} {ad : Nat → Nat → Nat → Nat} {cid : Nat → Nat → Nat → ClassId} {α : Type} {emb : α → Option Value}  {G : Int64 → Mem → Option (α × Mem)} (kx : ∀ r σ, AW (XC l D ad cid) M8_scanWord 1 emb [(0, .ref (ad 8 0 0)), (1, .long r)] 55 [] σ (G r σ)) : ∀ (n : Nat) (σ : Mem) (y1 : Int64), AW (XC l D ad cid) M8_scanWord 1 emb [(0, .ref (ad 8 0 0)), (1, .long y1)] 2 [] σ (bd (F8_scanWord_L2  n σ y1) G) := by
  intro n
  induction n with
  | zero => intros; exact aw_none
  | succ n ih =>
    intro σ y1
    refine aw_bdB ?_
    rw [F8_scanWord_L2.eq_2]
    refine aw_aload_n 0 dX8_scanWord_2 rfl rfl ?_
    refine aw_getf (fg_8_11 (by decide)) ci_8 (by decide) w_276 dX8_scanWord_3 ?_
    refine aw_aload_n 0 dX8_scanWord_6 rfl rfl ?_
    refine aw_getf (fg_8_10 (by decide)) ci_8 (by decide) w_275 dX8_scanWord_7 ?_
    refine aw_icmp_ge 55 dX8_scanWord_10 (by decide) ?_ ?_
    · exact kx y1 σ
    · refine aw_aload_n 0 dX8_scanWord_13 rfl rfl ?_
      refine aw_getf (fg_8_0 (by decide)) ci_8 (by decide) w_254 dX8_scanWord_14 ?_
      refine aw_aload_n 0 dX8_scanWord_17 rfl rfl ?_
      refine aw_getf (fg_8_11 (by decide)) ci_8 (by decide) w_276 dX8_scanWord_18 ?_
      refine aw_baload (ar_8_1 (by decide)) dX8_scanWord_21 (fun v_1 => ?_)
      refine aw_callST_B (c8_isLetter σ v_1) (by decide) mk_8_isLetter w_248 w_247 rfl rfl (Nat.le_of_ble_eq_true rfl) dX8_scanWord_22 ?_
      refine aw_bif_eq 55 dX8_scanWord_25 (by decide) ?_ ?_
      · exact kx y1 σ
      · refine aw_lload_n 1 dX8_scanWord_28 rfl rfl ?_
        refine aw_aload_n 0 dX8_scanWord_29 rfl rfl ?_
        refine aw_getf (fg_8_0 (by decide)) ci_8 (by decide) w_254 dX8_scanWord_30 ?_
        refine aw_aload_n 0 dX8_scanWord_33 rfl rfl ?_
        refine aw_getf (fg_8_11 (by decide)) ci_8 (by decide) w_276 dX8_scanWord_34 ?_
        refine aw_baload (ar_8_1 (by decide)) dX8_scanWord_37 (fun v_2 => ?_)
        refine aw_callST_L (c8_withLetter σ y1 v_2) (by decide) mk_8_withLetter w_251 w_250 rfl rfl (Nat.le_of_ble_eq_true rfl) dX8_scanWord_38 ?_
        refine aw_bnd_long (fun v_3 => ?_)
        refine aw_lstore_n (ls' := [(0, .ref (ad 8 0 0)), (1, .long v_3)]) [1, 0] dX8_scanWord_41 rfl (by decide) rfl ?_
        refine aw_aload_n 0 dX8_scanWord_42 rfl rfl ?_
        refine aw_dup dX8_scanWord_43 rfl ?_
        refine aw_getf (fg_8_11 (by decide)) ci_8 (by decide) w_276 dX8_scanWord_44 ?_
        refine aw_iconst 1 dX8_scanWord_47 (by decide) ?_
        refine aw_iadd dX8_scanWord_48 ?_
        refine aw_putI (fs_8_11 (by decide)) ci_8 (by decide) rfl rfl w_276 dX8_scanWord_49 ?_
        refine aw_bndM (fun s_4 => ?_)
        refine aw_goto 2 dX8_scanWord_52 (by decide) ?_
        exact ih s_4 v_3
def F8_scanWord_L85  : Nat → Mem → Int32 → Option ((Unit) × Mem)
  | 0 => fun _ _ => none
  | n + 1 => fun σ x3 =>
    if 30 ≤ x3 then (some ((), σ)) else ((ald 30 (gL σ 8 0 2) x3).bind fun v_9 => if v_9 = (gL σ 8 0 0 6) then (bnd (sI σ 8 0 0 5 x3) fun s_10 => (F8_scanWord_L85  n) s_10 (x3 + 1)) else ((F8_scanWord_L85  n) σ (x3 + 1)))
set_option maxRecDepth 20000 in
theorem c8_scanWord_L85 {l : Launch} {D : va_G} {ad : Nat → Nat → Nat → Nat} {cid : Nat → Nat → Nat → ClassId} {α : Type} {emb : α → Option Value}  {G : Unit → Mem → Option (α × Mem)} (kx : ∀ r σ, AW (XC l D ad cid) M8_scanWord 1 emb [] 116 [] σ (G r σ)) : ∀ (n : Nat) (σ : Mem) (x3 : Int32), AW (XC l D ad cid) M8_scanWord 1 emb [(0, .ref (ad 8 0 0)), (3, .int x3)] 85 [] σ (bd (F8_scanWord_L85  n σ x3) G) := by
  intro n
  induction n with
  | zero => intros; exact aw_none
  | succ n ih =>
    intro σ x3
    refine aw_bdB ?_
    rw [F8_scanWord_L85.eq_2]
    refine aw_iload_n 1 dX8_scanWord_85 rfl rfl ?_
    refine aw_bipush 30 dX8_scanWord_86 (by decide) ?_
    refine aw_icmp_ge 116 dX8_scanWord_88 (by decide) ?_ ?_
    · refine aw_ls (ls' := []) [] rfl ?_
      exact kx () σ
    · refine aw_aload_n 0 dX8_scanWord_91 rfl rfl ?_
      refine aw_getf (fg_8_13 (by decide)) ci_8 (by decide) w_278 dX8_scanWord_92 ?_
      refine aw_iload_n 1 dX8_scanWord_95 rfl rfl ?_
      refine aw_laload (ar_8_2 (by decide)) dX8_scanWord_96 (fun v_9 => ?_)
      refine aw_aload_n 0 dX8_scanWord_97 rfl rfl ?_
      refine aw_getf (fg_8_6 (by decide)) ci_8 (by decide) w_267 dX8_scanWord_98 ?_
      refine aw_lcmp dX8_scanWord_101 ?_
      refine aw_lif_ne 110 dX8_scanWord_102 (by decide) ?_ ?_
      · refine aw_iinc (ls' := [(0, .ref (ad 8 0 0)), (3, .int (x3 + 1))]) (x3 + 1) 1 [1, 0] dX8_scanWord_110 rfl (by rfl) (by decide) rfl ?_
        refine aw_goto 85 dX8_scanWord_113 (by decide) ?_
        exact ih σ (x3 + 1)
      · refine aw_aload_n 0 dX8_scanWord_105 rfl rfl ?_
        refine aw_iload_n 1 dX8_scanWord_106 rfl rfl ?_
        refine aw_putI (fs_8_5 (by decide)) ci_8 (by decide) rfl rfl w_266 dX8_scanWord_107 ?_
        refine aw_bndM (fun s_10 => ?_)
        refine aw_iinc (ls' := [(0, .ref (ad 8 0 0)), (3, .int (x3 + 1))]) (x3 + 1) 1 [1, 0] dX8_scanWord_110 rfl (by rfl) (by decide) rfl ?_
        refine aw_goto 85 dX8_scanWord_113 (by decide) ?_
        exact ih s_10 (x3 + 1)
def F8_scanWord_p55 (σ : Mem) (y1 : Int64) : Option (Unit × Mem) :=
  bnd (sI σ 8 0 0 4 1) fun s_7 => if ((gI s_7 8 0 0 11) - (gI s_7 8 0 0 12)) ≤ 8 then (bnd (sL s_7 8 0 0 6 y1) fun s_8 => bd (F8_scanWord_L85  fuelK s_8 0) fun r_11 s_12 => some ((), s_12)) else (bnd (sL s_7 8 0 0 6 0) fun s_13 => bd (F8_scanWord_L85  fuelK s_13 0) fun r_14 s_15 => some ((), s_15))
set_option maxRecDepth 20000 in
theorem c8_scanWord_p55 {l : Launch} {D : va_G} {ad : Nat → Nat → Nat → Nat} {cid : Nat → Nat → Nat → ClassId} (σ : Mem) (y1 : Int64) : AW (XC l D ad cid) M8_scanWord 1 eU [(0, .ref (ad 8 0 0)), (1, .long y1)] 55 [] σ ((F8_scanWord_p55 σ y1).bind some) := by
  unfold F8_scanWord_p55
  refine aw_aload_n 0 dX8_scanWord_55 rfl rfl ?_
  refine aw_iconst 1 dX8_scanWord_56 (by decide) ?_
  refine aw_putI (fs_8_4 (by decide)) ci_8 (by decide) rfl rfl w_261 dX8_scanWord_57 ?_
  refine aw_bndM (fun s_7 => ?_)
  refine aw_aload_n 0 dX8_scanWord_60 rfl rfl ?_
  refine aw_aload_n 0 dX8_scanWord_61 rfl rfl ?_
  refine aw_getf (fg_8_11 (by decide)) ci_8 (by decide) w_276 dX8_scanWord_62 ?_
  refine aw_aload_n 0 dX8_scanWord_65 rfl rfl ?_
  refine aw_getf (fg_8_12 (by decide)) ci_8 (by decide) w_277 dX8_scanWord_66 ?_
  refine aw_isub dX8_scanWord_69 ?_
  refine aw_bipush 8 dX8_scanWord_70 (by decide) ?_
  refine aw_icmp_le 79 dX8_scanWord_72 (by decide) ?_ ?_
  · refine aw_lload_n 1 dX8_scanWord_79 rfl rfl ?_
    refine aw_putL (fs_8_6 (by decide)) ci_8 (by decide) rfl rfl w_267 dX8_scanWord_80 ?_
    refine aw_bndM (fun s_8 => ?_)
    refine aw_iconst 0 dX8_scanWord_83 (by decide) ?_
    refine aw_istore_n (ls' := [(0, .ref (ad 8 0 0)), (3, .int 0)]) [1, 0] dX8_scanWord_84 rfl (by decide) rfl ?_
    refine aw_assocW ?_
    refine c8_scanWord_L85  (fun r_11 s_12 => ?_) fuelK s_8 0
    exact aw_return rfl dX8_scanWord_116
  · refine aw_lconst 0 dX8_scanWord_75 (by decide) ?_
    refine aw_goto 80 dX8_scanWord_76 (by decide) ?_
    refine aw_putL (fs_8_6 (by decide)) ci_8 (by decide) rfl rfl w_267 dX8_scanWord_80 ?_
    refine aw_bndM (fun s_13 => ?_)
    refine aw_iconst 0 dX8_scanWord_83 (by decide) ?_
    refine aw_istore_n (ls' := [(0, .ref (ad 8 0 0)), (3, .int 0)]) [1, 0] dX8_scanWord_84 rfl (by decide) rfl ?_
    refine aw_assocW ?_
    refine c8_scanWord_L85  (fun r_14 s_15 => ?_) fuelK s_13 0
    exact aw_return rfl dX8_scanWord_116
def F8_scanWord (σ : Mem)  : Option (Unit × Mem) :=
  bd (F8_scanWord_L2  fuelK σ 0) fun r_5 s_6 => F8_scanWord_p55 s_6 r_5
set_option maxRecDepth 20000 in
theorem c8_scanWord {l : Launch} {D : va_G} {ad : Nat → Nat → Nat → Nat} {cid : Nat → Nat → Nat → ClassId} (σ : Mem)  : AMF (XC l D ad cid) M8_scanWord 1 eU [.ref (ad 8 0 0)] σ (F8_scanWord σ) := by
  refine AM.ofW (by decide +kernel) (Nat.le_of_ble_eq_true rfl) (ls := [(0, .ref (ad 8 0 0))]) rfl ?_
  refine aw_entry ?_
  unfold F8_scanWord
  refine aw_lconst 0 dX8_scanWord_0 (by decide) ?_
  refine aw_lstore_n (ls' := [(0, .ref (ad 8 0 0)), (1, .long 0)]) [1, 0] dX8_scanWord_1 rfl (by decide) rfl ?_
  refine aw_assocW ?_
  refine c8_scanWord_L2  (fun r_5 s_6 => ?_) fuelK σ 0
  exact c8_scanWord_p55 s_6 r_5
def F8_isDigit (x0 : Int32) : Bool :=
  if x0 < 48 then (false) else (if 57 < x0 then (false) else (true))
set_option maxRecDepth 20000 in
theorem c8_isDigit {l : Launch} {D : va_G} {ad : Nat → Nat → Nat → Nat} {cid : Nat → Nat → Nat → ClassId} (σ : Mem) (x0 : Int32) : AMF (XC l D ad cid) M8_isDigit 0 eB [.int x0] σ (some (F8_isDigit x0, σ)) := by
  refine AM.ofW (by decide +kernel) (Nat.le_of_ble_eq_true rfl) (ls := [(0, .int x0)]) rfl ?_
  refine aw_entryT ?_
  unfold F8_isDigit
  refine aw_iload_n 0 dX8_isDigit_0 rfl rfl ?_
  refine aw_bipush 48 dX8_isDigit_1 (by decide) ?_
  refine aw_iteT ?_
  refine aw_icmp_lt 16 dX8_isDigit_3 (by decide) ?_ ?_
  · refine aw_iconst 0 dX8_isDigit_16 (by decide) ?_
    exact aw_zreturn (b := false) rfl rfl dX8_isDigit_17
  · refine aw_iload_n 0 dX8_isDigit_6 rfl rfl ?_
    refine aw_bipush 57 dX8_isDigit_7 (by decide) ?_
    refine aw_iteT ?_
    refine aw_icmp_gt 16 dX8_isDigit_9 (by decide) ?_ ?_
    · refine aw_iconst 0 dX8_isDigit_16 (by decide) ?_
      exact aw_zreturn (b := false) rfl rfl dX8_isDigit_17
    · refine aw_iconst 1 dX8_isDigit_12 (by decide) ?_
      refine aw_goto 17 dX8_isDigit_13 (by decide) ?_
      exact aw_zreturn (b := true) rfl rfl dX8_isDigit_17
def F8_scanNumber_L2  : Nat → Mem → Int32 → Option ((Int32) × Mem)
  | 0 => fun _ _ => none
  | n + 1 => fun σ x1 =>
    if (gI σ 8 0 0 10) ≤ (gI σ 8 0 0 11) then (some (x1, σ)) else ((ald 900 (gI σ 8 0 1) (gI σ 8 0 0 11)).bind fun v_1 => if (F8_isDigit v_1) = true then ((ald 900 (gI σ 8 0 1) (gI σ 8 0 0 11)).bind fun v_2 => bnd ((x1 * 10) + (v_2 - 48)) fun v_3 => bnd (sI σ 8 0 0 11 ((gI σ 8 0 0 11) + 1)) fun s_4 => (F8_scanNumber_L2  n) s_4 v_3) else (some (x1, σ)))
set_option maxRecDepth 20000 in
theorem c8_scanNumber_L2 {l : Launch} {D : va_G} {ad : Nat → Nat → Nat → Nat} {cid : Nat → Nat → Nat → ClassId} {α : Type} {emb : α → Option Value}  {G : Int32 → Mem → Option (α × Mem)} (kx : ∀ r σ, AW (XC l D ad cid) M8_scanNumber 1 emb [(0, .ref (ad 8 0 0)), (1, .int r)] 59 [] σ (G r σ)) : ∀ (n : Nat) (σ : Mem) (x1 : Int32), AW (XC l D ad cid) M8_scanNumber 1 emb [(0, .ref (ad 8 0 0)), (1, .int x1)] 2 [] σ (bd (F8_scanNumber_L2  n σ x1) G) := by
  intro n
  induction n with
  | zero => intros; exact aw_none
  | succ n ih =>
    intro σ x1
    refine aw_bdB ?_
    rw [F8_scanNumber_L2.eq_2]
    refine aw_aload_n 0 dX8_scanNumber_2 rfl rfl ?_
    refine aw_getf (fg_8_11 (by decide)) ci_8 (by decide) w_276 dX8_scanNumber_3 ?_
    refine aw_aload_n 0 dX8_scanNumber_6 rfl rfl ?_
    refine aw_getf (fg_8_10 (by decide)) ci_8 (by decide) w_275 dX8_scanNumber_7 ?_
    refine aw_icmp_ge 59 dX8_scanNumber_10 (by decide) ?_ ?_
    · exact kx x1 σ
    · refine aw_aload_n 0 dX8_scanNumber_13 rfl rfl ?_
      refine aw_getf (fg_8_0 (by decide)) ci_8 (by decide) w_254 dX8_scanNumber_14 ?_
      refine aw_aload_n 0 dX8_scanNumber_17 rfl rfl ?_
      refine aw_getf (fg_8_11 (by decide)) ci_8 (by decide) w_276 dX8_scanNumber_18 ?_
      refine aw_baload (ar_8_1 (by decide)) dX8_scanNumber_21 (fun v_1 => ?_)
      refine aw_callST_B (c8_isDigit σ v_1) (by decide) mk_8_isDigit w_878 w_877 rfl rfl (Nat.le_of_ble_eq_true rfl) dX8_scanNumber_22 ?_
      refine aw_bif_eq 59 dX8_scanNumber_25 (by decide) ?_ ?_
      · exact kx x1 σ
      · refine aw_iload_n 1 dX8_scanNumber_28 rfl rfl ?_
        refine aw_bipush 10 dX8_scanNumber_29 (by decide) ?_
        refine aw_imul dX8_scanNumber_31 ?_
        refine aw_aload_n 0 dX8_scanNumber_32 rfl rfl ?_
        refine aw_getf (fg_8_0 (by decide)) ci_8 (by decide) w_254 dX8_scanNumber_33 ?_
        refine aw_aload_n 0 dX8_scanNumber_36 rfl rfl ?_
        refine aw_getf (fg_8_11 (by decide)) ci_8 (by decide) w_276 dX8_scanNumber_37 ?_
        refine aw_baload (ar_8_1 (by decide)) dX8_scanNumber_40 (fun v_2 => ?_)
        refine aw_bipush 48 dX8_scanNumber_41 (by decide) ?_
        refine aw_isub dX8_scanNumber_43 ?_
        refine aw_iadd dX8_scanNumber_44 ?_
        refine aw_bnd_int (fun v_3 => ?_)
        refine aw_istore_n (ls' := [(0, .ref (ad 8 0 0)), (1, .int v_3)]) [1, 0] dX8_scanNumber_45 rfl (by decide) rfl ?_
        refine aw_aload_n 0 dX8_scanNumber_46 rfl rfl ?_
        refine aw_dup dX8_scanNumber_47 rfl ?_
        refine aw_getf (fg_8_11 (by decide)) ci_8 (by decide) w_276 dX8_scanNumber_48 ?_
        refine aw_iconst 1 dX8_scanNumber_51 (by decide) ?_
        refine aw_iadd dX8_scanNumber_52 ?_
        refine aw_putI (fs_8_11 (by decide)) ci_8 (by decide) rfl rfl w_276 dX8_scanNumber_53 ?_
        refine aw_bndM (fun s_4 => ?_)
        refine aw_goto 2 dX8_scanNumber_56 (by decide) ?_
        exact ih s_4 v_3
def F8_scanNumber_p59 (σ : Mem) (x1 : Int32) : Option (Unit × Mem) :=
  if ((gI σ 8 0 0 11) - (gI σ 8 0 0 12)) ≤ 4 then (bnd (sI σ 8 0 0 4 2) fun s_7 => bnd (sI s_7 8 0 0 7 x1) fun s_8 => some ((), s_8)) else (bnd (sI σ 8 0 0 4 4) fun s_9 => bnd (sI s_9 8 0 0 7 x1) fun s_10 => some ((), s_10))
set_option maxRecDepth 20000 in
theorem c8_scanNumber_p59 {l : Launch} {D : va_G} {ad : Nat → Nat → Nat → Nat} {cid : Nat → Nat → Nat → ClassId} (σ : Mem) (x1 : Int32) : AW (XC l D ad cid) M8_scanNumber 1 eU [(0, .ref (ad 8 0 0)), (1, .int x1)] 59 [] σ ((F8_scanNumber_p59 σ x1).bind some) := by
  unfold F8_scanNumber_p59
  refine aw_aload_n 0 dX8_scanNumber_59 rfl rfl ?_
  refine aw_aload_n 0 dX8_scanNumber_60 rfl rfl ?_
  refine aw_getf (fg_8_11 (by decide)) ci_8 (by decide) w_276 dX8_scanNumber_61 ?_
  refine aw_aload_n 0 dX8_scanNumber_64 rfl rfl ?_
  refine aw_getf (fg_8_12 (by decide)) ci_8 (by decide) w_277 dX8_scanNumber_65 ?_
  refine aw_isub dX8_scanNumber_68 ?_
  refine aw_iconst 4 dX8_scanNumber_69 (by decide) ?_
  refine aw_icmp_le 77 dX8_scanNumber_70 (by decide) ?_ ?_
  · refine aw_iconst 2 dX8_scanNumber_77 (by decide) ?_
    refine aw_putI (fs_8_4 (by decide)) ci_8 (by decide) rfl rfl w_261 dX8_scanNumber_78 ?_
    refine aw_bndM (fun s_7 => ?_)
    refine aw_aload_n 0 dX8_scanNumber_81 rfl rfl ?_
    refine aw_iload_n 1 dX8_scanNumber_82 rfl rfl ?_
    refine aw_putI (fs_8_7 (by decide)) ci_8 (by decide) rfl rfl w_270 dX8_scanNumber_83 ?_
    refine aw_bndM (fun s_8 => ?_)
    exact aw_return rfl dX8_scanNumber_86
  · refine aw_iconst 4 dX8_scanNumber_73 (by decide) ?_
    refine aw_goto 78 dX8_scanNumber_74 (by decide) ?_
    refine aw_putI (fs_8_4 (by decide)) ci_8 (by decide) rfl rfl w_261 dX8_scanNumber_78 ?_
    refine aw_bndM (fun s_9 => ?_)
    refine aw_aload_n 0 dX8_scanNumber_81 rfl rfl ?_
    refine aw_iload_n 1 dX8_scanNumber_82 rfl rfl ?_
    refine aw_putI (fs_8_7 (by decide)) ci_8 (by decide) rfl rfl w_270 dX8_scanNumber_83 ?_
    refine aw_bndM (fun s_10 => ?_)
    exact aw_return rfl dX8_scanNumber_86
def F8_scanNumber (σ : Mem)  : Option (Unit × Mem) :=
  bd (F8_scanNumber_L2  fuelK σ 0) fun r_5 s_6 => F8_scanNumber_p59 s_6 r_5
set_option maxRecDepth 20000 in
theorem c8_scanNumber {l : Launch} {D : va_G} {ad : Nat → Nat → Nat → Nat} {cid : Nat → Nat → Nat → ClassId} (σ : Mem)  : AMF (XC l D ad cid) M8_scanNumber 1 eU [.ref (ad 8 0 0)] σ (F8_scanNumber σ) := by
  refine AM.ofW (by decide +kernel) (Nat.le_of_ble_eq_true rfl) (ls := [(0, .ref (ad 8 0 0))]) rfl ?_
  refine aw_entry ?_
  unfold F8_scanNumber
  refine aw_iconst 0 dX8_scanNumber_0 (by decide) ?_
  refine aw_istore_n (ls' := [(0, .ref (ad 8 0 0)), (1, .int 0)]) [1, 0] dX8_scanNumber_1 rfl (by decide) rfl ?_
  refine aw_assocW ?_
  refine c8_scanNumber_L2  (fun r_5 s_6 => ?_) fuelK σ 0
  exact c8_scanNumber_p59 s_6 r_5
def F8_isSign (x0 : Int32) : Bool :=
  if x0 = 59 then (true) else (if x0 = 60 then (true) else (if x0 = 62 then (true) else (if x0 = 61 then (true) else (false))))
set_option maxRecDepth 20000 in
theorem c8_isSign {l : Launch} {D : va_G} {ad : Nat → Nat → Nat → Nat} {cid : Nat → Nat → Nat → ClassId} (σ : Mem) (x0 : Int32) : AMF (XC l D ad cid) M8_isSign 0 eB [.int x0] σ (some (F8_isSign x0, σ)) := by
  refine AM.ofW (by decide +kernel) (Nat.le_of_ble_eq_true rfl) (ls := [(0, .int x0)]) rfl ?_
  refine aw_entryT ?_
  unfold F8_isSign
  refine aw_iload_n 0 dX8_isSign_0 rfl rfl ?_
  refine aw_bipush 59 dX8_isSign_1 (by decide) ?_
  refine aw_iteT ?_
  refine aw_icmp_eq 24 dX8_isSign_3 (by decide) ?_ ?_
  · refine aw_iconst 1 dX8_isSign_24 (by decide) ?_
    refine aw_goto 29 dX8_isSign_25 (by decide) ?_
    exact aw_zreturn (b := true) rfl rfl dX8_isSign_29
  · refine aw_iload_n 0 dX8_isSign_6 rfl rfl ?_
    refine aw_bipush 60 dX8_isSign_7 (by decide) ?_
    refine aw_iteT ?_
    refine aw_icmp_eq 24 dX8_isSign_9 (by decide) ?_ ?_
    · refine aw_iconst 1 dX8_isSign_24 (by decide) ?_
      refine aw_goto 29 dX8_isSign_25 (by decide) ?_
      exact aw_zreturn (b := true) rfl rfl dX8_isSign_29
    · refine aw_iload_n 0 dX8_isSign_12 rfl rfl ?_
      refine aw_bipush 62 dX8_isSign_13 (by decide) ?_
      refine aw_iteT ?_
      refine aw_icmp_eq 24 dX8_isSign_15 (by decide) ?_ ?_
      · refine aw_iconst 1 dX8_isSign_24 (by decide) ?_
        refine aw_goto 29 dX8_isSign_25 (by decide) ?_
        exact aw_zreturn (b := true) rfl rfl dX8_isSign_29
      · refine aw_iload_n 0 dX8_isSign_18 rfl rfl ?_
        refine aw_bipush 61 dX8_isSign_19 (by decide) ?_
        refine aw_iteT ?_
        refine aw_icmp_ne 28 dX8_isSign_21 (by decide) ?_ ?_
        · refine aw_iconst 0 dX8_isSign_28 (by decide) ?_
          exact aw_zreturn (b := false) rfl rfl dX8_isSign_29
        · refine aw_iconst 1 dX8_isSign_24 (by decide) ?_
          refine aw_goto 29 dX8_isSign_25 (by decide) ?_
          exact aw_zreturn (b := true) rfl rfl dX8_isSign_29
def F8_advance_L0  : Nat → Mem → Option ((Unit) × Mem)
  | 0 => fun _ => none
  | n + 1 => fun σ  =>
    if (gI σ 8 0 0 10) ≤ (gI σ 8 0 0 11) then (some ((), σ)) else ((ald 900 (gI σ 8 0 1) (gI σ 8 0 0 11)).bind fun v_1 => if v_1 = 10 then (bnd (sI σ 8 0 0 11 ((gI σ 8 0 0 11) + 1)) fun s_2 => (F8_advance_L0  n) s_2 ) else ((ald 900 (gI σ 8 0 1) (gI σ 8 0 0 11)).bind fun v_3 => if v_3 = 32 then (bnd (sI σ 8 0 0 11 ((gI σ 8 0 0 11) + 1)) fun s_4 => (F8_advance_L0  n) s_4 ) else (some ((), σ))))
set_option maxRecDepth 20000 in
theorem c8_advance_L0 {l : Launch} {D : va_G} {ad : Nat → Nat → Nat → Nat} {cid : Nat → Nat → Nat → ClassId} {α : Type} {emb : α → Option Value}  {G : Unit → Mem → Option (α × Mem)} (kx : ∀ r σ, AW (XC l D ad cid) M8_advance 2 emb [(0, .ref (ad 8 0 0))] 52 [] σ (G r σ)) : ∀ (n : Nat) (σ : Mem) , AW (XC l D ad cid) M8_advance 2 emb [(0, .ref (ad 8 0 0))] 0 [] σ (bd (F8_advance_L0  n σ ) G) := by
  intro n
  induction n with
  | zero => intros; exact aw_none
  | succ n ih =>
    intro σ 
    refine aw_bdB ?_
    rw [F8_advance_L0.eq_2]
    refine aw_aload_n 0 dX8_advance_0 rfl rfl ?_
    refine aw_getf (fg_8_11 (by decide)) ci_8 (by decide) w_276 dX8_advance_1 ?_
    refine aw_aload_n 0 dX8_advance_4 rfl rfl ?_
    refine aw_getf (fg_8_10 (by decide)) ci_8 (by decide) w_275 dX8_advance_5 ?_
    refine aw_icmp_ge 52 dX8_advance_8 (by decide) ?_ ?_
    · exact kx () σ
    · refine aw_aload_n 0 dX8_advance_11 rfl rfl ?_
      refine aw_getf (fg_8_0 (by decide)) ci_8 (by decide) w_254 dX8_advance_12 ?_
      refine aw_aload_n 0 dX8_advance_15 rfl rfl ?_
      refine aw_getf (fg_8_11 (by decide)) ci_8 (by decide) w_276 dX8_advance_16 ?_
      refine aw_baload (ar_8_1 (by decide)) dX8_advance_19 (fun v_1 => ?_)
      refine aw_bipush 10 dX8_advance_20 (by decide) ?_
      refine aw_icmp_eq 39 dX8_advance_22 (by decide) ?_ ?_
      · refine aw_aload_n 0 dX8_advance_39 rfl rfl ?_
        refine aw_dup dX8_advance_40 rfl ?_
        refine aw_getf (fg_8_11 (by decide)) ci_8 (by decide) w_276 dX8_advance_41 ?_
        refine aw_iconst 1 dX8_advance_44 (by decide) ?_
        refine aw_iadd dX8_advance_45 ?_
        refine aw_putI (fs_8_11 (by decide)) ci_8 (by decide) rfl rfl w_276 dX8_advance_46 ?_
        refine aw_bndM (fun s_2 => ?_)
        refine aw_goto 0 dX8_advance_49 (by decide) ?_
        exact ih s_2 
      · refine aw_aload_n 0 dX8_advance_25 rfl rfl ?_
        refine aw_getf (fg_8_0 (by decide)) ci_8 (by decide) w_254 dX8_advance_26 ?_
        refine aw_aload_n 0 dX8_advance_29 rfl rfl ?_
        refine aw_getf (fg_8_11 (by decide)) ci_8 (by decide) w_276 dX8_advance_30 ?_
        refine aw_baload (ar_8_1 (by decide)) dX8_advance_33 (fun v_3 => ?_)
        refine aw_bipush 32 dX8_advance_34 (by decide) ?_
        refine aw_icmp_ne 52 dX8_advance_36 (by decide) ?_ ?_
        · exact kx () σ
        · refine aw_aload_n 0 dX8_advance_39 rfl rfl ?_
          refine aw_dup dX8_advance_40 rfl ?_
          refine aw_getf (fg_8_11 (by decide)) ci_8 (by decide) w_276 dX8_advance_41 ?_
          refine aw_iconst 1 dX8_advance_44 (by decide) ?_
          refine aw_iadd dX8_advance_45 ?_
          refine aw_putI (fs_8_11 (by decide)) ci_8 (by decide) rfl rfl w_276 dX8_advance_46 ?_
          refine aw_bndM (fun s_4 => ?_)
          refine aw_goto 0 dX8_advance_49 (by decide) ?_
          exact ih s_4 
def F8_advance_p52 (σ : Mem)  : Option (Unit × Mem) :=
  bnd (sI σ 8 0 0 12 (gI σ 8 0 0 11)) fun s_7 => bnd (sI s_7 8 0 0 5 (-1)) fun s_8 => bnd (sL s_8 8 0 0 6 0) fun s_9 => bnd (sI s_9 8 0 0 7 (-1)) fun s_10 => bnd (sI s_10 8 0 0 8 (-1)) fun s_11 => if (gI s_11 8 0 0 11) < (gI s_11 8 0 0 10) then ((ald 900 (gI s_11 8 0 1) (gI s_11 8 0 0 11)).bind fun v_12 => if (F8_isLetter v_12) = true then (bd (F8_scanWord s_11) fun _ s_21 => some ((), s_21)) else ((ald 900 (gI s_11 8 0 1) (gI s_11 8 0 0 11)).bind fun v_13 => if (F8_isDigit v_13) = true then (bd (F8_scanNumber s_11) fun _ s_20 => some ((), s_20)) else ((ald 900 (gI s_11 8 0 1) (gI s_11 8 0 0 11)).bind fun v_14 => if (F8_isSign v_14) = true then (bnd (sI s_11 8 0 0 4 3) fun s_16 => (ald 900 (gI s_16 8 0 1) (gI s_16 8 0 0 11)).bind fun v_17 => bnd (sI s_16 8 0 0 8 v_17) fun s_18 => bnd (sI s_18 8 0 0 11 ((gI s_18 8 0 0 11) + 1)) fun s_19 => some ((), s_19)) else (bnd (sI s_11 8 0 0 4 4) fun s_15 => some ((), s_15))))) else (bnd (sI s_11 8 0 0 4 0) fun s_22 => some ((), s_22))
set_option maxRecDepth 20000 in
theorem c8_advance_p52 {l : Launch} {D : va_G} {ad : Nat → Nat → Nat → Nat} {cid : Nat → Nat → Nat → ClassId} (σ : Mem)  : AW (XC l D ad cid) M8_advance 2 eU [(0, .ref (ad 8 0 0))] 52 [] σ ((F8_advance_p52 σ).bind some) := by
  unfold F8_advance_p52
  refine aw_aload_n 0 dX8_advance_52 rfl rfl ?_
  refine aw_aload_n 0 dX8_advance_53 rfl rfl ?_
  refine aw_getf (fg_8_11 (by decide)) ci_8 (by decide) w_276 dX8_advance_54 ?_
  refine aw_putI (fs_8_12 (by decide)) ci_8 (by decide) rfl rfl w_277 dX8_advance_57 ?_
  refine aw_bndM (fun s_7 => ?_)
  refine aw_aload_n 0 dX8_advance_60 rfl rfl ?_
  refine aw_iconst (-1) dX8_advance_61 (by decide) ?_
  refine aw_putI (fs_8_5 (by decide)) ci_8 (by decide) rfl rfl w_266 dX8_advance_62 ?_
  refine aw_bndM (fun s_8 => ?_)
  refine aw_aload_n 0 dX8_advance_65 rfl rfl ?_
  refine aw_lconst 0 dX8_advance_66 (by decide) ?_
  refine aw_putL (fs_8_6 (by decide)) ci_8 (by decide) rfl rfl w_267 dX8_advance_67 ?_
  refine aw_bndM (fun s_9 => ?_)
  refine aw_aload_n 0 dX8_advance_70 rfl rfl ?_
  refine aw_iconst (-1) dX8_advance_71 (by decide) ?_
  refine aw_putI (fs_8_7 (by decide)) ci_8 (by decide) rfl rfl w_270 dX8_advance_72 ?_
  refine aw_bndM (fun s_10 => ?_)
  refine aw_aload_n 0 dX8_advance_75 rfl rfl ?_
  refine aw_iconst (-1) dX8_advance_76 (by decide) ?_
  refine aw_putI (fs_8_8 (by decide)) ci_8 (by decide) rfl rfl w_271 dX8_advance_77 ?_
  refine aw_bndM (fun s_11 => ?_)
  refine aw_aload_n 0 dX8_advance_80 rfl rfl ?_
  refine aw_getf (fg_8_11 (by decide)) ci_8 (by decide) w_276 dX8_advance_81 ?_
  refine aw_aload_n 0 dX8_advance_84 rfl rfl ?_
  refine aw_getf (fg_8_10 (by decide)) ci_8 (by decide) w_275 dX8_advance_85 ?_
  refine aw_icmp_lt 99 dX8_advance_88 (by decide) ?_ ?_
  · refine aw_aload_n 0 dX8_advance_99 rfl rfl ?_
    refine aw_getf (fg_8_0 (by decide)) ci_8 (by decide) w_254 dX8_advance_100 ?_
    refine aw_aload_n 0 dX8_advance_103 rfl rfl ?_
    refine aw_getf (fg_8_11 (by decide)) ci_8 (by decide) w_276 dX8_advance_104 ?_
    refine aw_baload (ar_8_1 (by decide)) dX8_advance_107 (fun v_12 => ?_)
    refine aw_callST_B (c8_isLetter s_11 v_12) (by decide) mk_8_isLetter w_248 w_247 rfl rfl (Nat.le_of_ble_eq_true rfl) dX8_advance_108 ?_
    refine aw_bif_eq 121 dX8_advance_111 (by decide) ?_ ?_
    · refine aw_aload_n 0 dX8_advance_121 rfl rfl ?_
      refine aw_getf (fg_8_0 (by decide)) ci_8 (by decide) w_254 dX8_advance_122 ?_
      refine aw_aload_n 0 dX8_advance_125 rfl rfl ?_
      refine aw_getf (fg_8_11 (by decide)) ci_8 (by decide) w_276 dX8_advance_126 ?_
      refine aw_baload (ar_8_1 (by decide)) dX8_advance_129 (fun v_13 => ?_)
      refine aw_callST_B (c8_isDigit s_11 v_13) (by decide) mk_8_isDigit w_878 w_877 rfl rfl (Nat.le_of_ble_eq_true rfl) dX8_advance_130 ?_
      refine aw_bif_eq 143 dX8_advance_133 (by decide) ?_ ?_
      · refine aw_aload_n 0 dX8_advance_143 rfl rfl ?_
        refine aw_getf (fg_8_0 (by decide)) ci_8 (by decide) w_254 dX8_advance_144 ?_
        refine aw_aload_n 0 dX8_advance_147 rfl rfl ?_
        refine aw_getf (fg_8_11 (by decide)) ci_8 (by decide) w_276 dX8_advance_148 ?_
        refine aw_baload (ar_8_1 (by decide)) dX8_advance_151 (fun v_14 => ?_)
        refine aw_callST_B (c8_isSign s_11 v_14) (by decide) mk_8_isSign w_885 w_884 rfl rfl (Nat.le_of_ble_eq_true rfl) dX8_advance_152 ?_
        refine aw_bif_eq 189 dX8_advance_155 (by decide) ?_ ?_
        · refine aw_aload_n 0 dX8_advance_189 rfl rfl ?_
          refine aw_iconst 4 dX8_advance_190 (by decide) ?_
          refine aw_putI (fs_8_4 (by decide)) ci_8 (by decide) rfl rfl w_261 dX8_advance_191 ?_
          refine aw_bndM (fun s_15 => ?_)
          exact aw_return rfl dX8_advance_194
        · refine aw_aload_n 0 dX8_advance_158 rfl rfl ?_
          refine aw_iconst 3 dX8_advance_159 (by decide) ?_
          refine aw_putI (fs_8_4 (by decide)) ci_8 (by decide) rfl rfl w_261 dX8_advance_160 ?_
          refine aw_bndM (fun s_16 => ?_)
          refine aw_aload_n 0 dX8_advance_163 rfl rfl ?_
          refine aw_aload_n 0 dX8_advance_164 rfl rfl ?_
          refine aw_getf (fg_8_0 (by decide)) ci_8 (by decide) w_254 dX8_advance_165 ?_
          refine aw_aload_n 0 dX8_advance_168 rfl rfl ?_
          refine aw_getf (fg_8_11 (by decide)) ci_8 (by decide) w_276 dX8_advance_169 ?_
          refine aw_baload (ar_8_1 (by decide)) dX8_advance_172 (fun v_17 => ?_)
          refine aw_putI (fs_8_8 (by decide)) ci_8 (by decide) rfl rfl w_271 dX8_advance_173 ?_
          refine aw_bndM (fun s_18 => ?_)
          refine aw_aload_n 0 dX8_advance_176 rfl rfl ?_
          refine aw_dup dX8_advance_177 rfl ?_
          refine aw_getf (fg_8_11 (by decide)) ci_8 (by decide) w_276 dX8_advance_178 ?_
          refine aw_iconst 1 dX8_advance_181 (by decide) ?_
          refine aw_iadd dX8_advance_182 ?_
          refine aw_putI (fs_8_11 (by decide)) ci_8 (by decide) rfl rfl w_276 dX8_advance_183 ?_
          refine aw_bndM (fun s_19 => ?_)
          refine aw_goto 194 dX8_advance_186 (by decide) ?_
          exact aw_return rfl dX8_advance_194
      · refine aw_aload_n 0 dX8_advance_136 rfl rfl ?_
        refine aw_callVW_U (c8_scanNumber s_11 ) (io_8 (by decide)) ci_8 (by decide) mk_8_scanNumber w_882 w_5 w_880 rfl rfl (Nat.le_of_ble_eq_true rfl) dX8_advance_137 (fun _ s_20 => ?_)
        refine aw_goto 194 dX8_advance_140 (by decide) ?_
        exact aw_return rfl dX8_advance_194
    · refine aw_aload_n 0 dX8_advance_114 rfl rfl ?_
      refine aw_callVW_U (c8_scanWord s_11 ) (io_8 (by decide)) ci_8 (by decide) mk_8_scanWord w_875 w_4 w_873 rfl rfl (Nat.le_of_ble_eq_true rfl) dX8_advance_115 (fun _ s_21 => ?_)
      refine aw_goto 194 dX8_advance_118 (by decide) ?_
      exact aw_return rfl dX8_advance_194
  · refine aw_aload_n 0 dX8_advance_91 rfl rfl ?_
    refine aw_iconst 0 dX8_advance_92 (by decide) ?_
    refine aw_putI (fs_8_4 (by decide)) ci_8 (by decide) rfl rfl w_261 dX8_advance_93 ?_
    refine aw_bndM (fun s_22 => ?_)
    refine aw_goto 194 dX8_advance_96 (by decide) ?_
    exact aw_return rfl dX8_advance_194
def F8_advance (σ : Mem)  : Option (Unit × Mem) :=
  bd (F8_advance_L0  fuelK σ ) fun r_5 s_6 => F8_advance_p52 s_6
set_option maxRecDepth 20000 in
theorem c8_advance {l : Launch} {D : va_G} {ad : Nat → Nat → Nat → Nat} {cid : Nat → Nat → Nat → ClassId} (σ : Mem)  : AMF (XC l D ad cid) M8_advance 2 eU [.ref (ad 8 0 0)] σ (F8_advance σ) := by
  refine AM.ofW (by decide +kernel) (Nat.le_of_ble_eq_true rfl) (ls := [(0, .ref (ad 8 0 0))]) rfl ?_
  refine aw_entry ?_
  unfold F8_advance
  refine aw_assocW ?_
  refine c8_advance_L0  (fun r_5 s_6 => ?_) fuelK σ 
  exact c8_advance_p52 s_6 
def F8_begin (σ : Mem) (x1 : Int32) : Option (Unit × Mem) :=
  bnd (sI σ 8 0 0 10 (iMax 0 (iMin x1 (gI σ 8 0 0 1)))) fun s_1 => bnd (sI s_1 8 0 0 11 0) fun s_2 => bnd (sI s_2 8 0 0 2 0) fun s_3 => bnd (sI s_3 8 0 0 3 (-1)) fun s_4 => bd (F8_advance s_4) fun _ s_5 => some ((), s_5)
set_option maxRecDepth 20000 in
theorem c8_begin {l : Launch} {D : va_G} {ad : Nat → Nat → Nat → Nat} {cid : Nat → Nat → Nat → ClassId} (σ : Mem) (x1 : Int32) : AMF (XC l D ad cid) M8_begin 3 eU [.ref (ad 8 0 0), .int x1] σ (F8_begin σ x1) := by
  refine AM.ofW (by decide +kernel) (Nat.le_of_ble_eq_true rfl) (ls := [(0, .ref (ad 8 0 0)), (1, .int x1)]) rfl ?_
  refine aw_entry ?_
  unfold F8_begin
  refine aw_aload_n 0 dX8_begin_0 rfl rfl ?_
  refine aw_iconst 0 dX8_begin_1 (by decide) ?_
  refine aw_iload_n 1 dX8_begin_2 rfl rfl ?_
  refine aw_aload_n 0 dX8_begin_3 rfl rfl ?_
  refine aw_getf (fg_8_1 (by decide)) ci_8 (by decide) w_255 dX8_begin_4 ?_
  refine aw_min w_863 w_864 w_159 w_865 (Nat.le_of_ble_eq_true rfl) dX8_begin_7 ?_
  refine aw_max w_866 w_867 w_159 w_868 (Nat.le_of_ble_eq_true rfl) dX8_begin_10 ?_
  refine aw_putI (fs_8_10 (by decide)) ci_8 (by decide) rfl rfl w_275 dX8_begin_13 ?_
  refine aw_bndM (fun s_1 => ?_)
  refine aw_aload_n 0 dX8_begin_16 rfl rfl ?_
  refine aw_iconst 0 dX8_begin_17 (by decide) ?_
  refine aw_putI (fs_8_11 (by decide)) ci_8 (by decide) rfl rfl w_276 dX8_begin_18 ?_
  refine aw_bndM (fun s_2 => ?_)
  refine aw_aload_n 0 dX8_begin_21 rfl rfl ?_
  refine aw_iconst 0 dX8_begin_22 (by decide) ?_
  refine aw_putI (fs_8_2 (by decide)) ci_8 (by decide) rfl rfl w_257 dX8_begin_23 ?_
  refine aw_bndM (fun s_3 => ?_)
  refine aw_aload_n 0 dX8_begin_26 rfl rfl ?_
  refine aw_iconst (-1) dX8_begin_27 (by decide) ?_
  refine aw_putI (fs_8_3 (by decide)) ci_8 (by decide) rfl rfl w_259 dX8_begin_28 ?_
  refine aw_bndM (fun s_4 => ?_)
  refine aw_aload_n 0 dX8_begin_31 rfl rfl ?_
  refine aw_callVW_U (c8_advance s_4 ) (io_8 (by decide)) ci_8 (by decide) mk_8_advance w_870 w_871 w_869 rfl rfl (Nat.le_of_ble_eq_true rfl) dX8_begin_32 (fun _ s_5 => ?_)
  exact aw_return rfl dX8_begin_35
def F9_clear (σ : Mem) (t0 : Nat) : Option (Unit × Mem) :=
  bnd (sI σ 9 t0 0 0 24) fun s_1 => bnd (sI s_1 9 t0 0 1 8) fun s_2 => bnd (sI s_2 9 t0 0 2 12) fun s_3 => bnd (sI s_3 9 t0 0 3 0) fun s_4 => bnd (sI s_4 9 t0 0 4 0) fun s_5 => bnd (sI s_5 9 t0 0 7 0) fun s_6 => bnd (sI s_6 9 t0 0 13 0) fun s_7 => bnd (sI s_7 9 t0 0 19 0) fun s_8 => some ((), s_8)
set_option maxRecDepth 20000 in
theorem c9_clear {l : Launch} {D : va_G} {ad : Nat → Nat → Nat → Nat} {cid : Nat → Nat → Nat → ClassId} (σ : Mem) (t0 : Nat) (ht0 : t0 < 5) : AMF (XC l D ad cid) M9_clear 0 eU [.ref (ad 9 t0 0)] σ (F9_clear σ t0) := by
  refine AM.ofW (by decide +kernel) (Nat.le_of_ble_eq_true rfl) (ls := [(0, .ref (ad 9 t0 0))]) rfl ?_
  refine aw_entry ?_
  unfold F9_clear
  refine aw_aload_n 0 dX9_clear_0 rfl rfl ?_
  refine aw_bipush 24 dX9_clear_1 (by decide) ?_
  refine aw_putI (fs_9_0 (by omega)) ci_9 (by decide) rfl rfl w_319 dX9_clear_3 ?_
  refine aw_bndM (fun s_1 => ?_)
  refine aw_aload_n 0 dX9_clear_6 rfl rfl ?_
  refine aw_bipush 8 dX9_clear_7 (by decide) ?_
  refine aw_putI (fs_9_1 (by omega)) ci_9 (by decide) rfl rfl w_322 dX9_clear_9 ?_
  refine aw_bndM (fun s_2 => ?_)
  refine aw_aload_n 0 dX9_clear_12 rfl rfl ?_
  refine aw_bipush 12 dX9_clear_13 (by decide) ?_
  refine aw_putI (fs_9_2 (by omega)) ci_9 (by decide) rfl rfl w_324 dX9_clear_15 ?_
  refine aw_bndM (fun s_3 => ?_)
  refine aw_aload_n 0 dX9_clear_18 rfl rfl ?_
  refine aw_iconst 0 dX9_clear_19 (by decide) ?_
  refine aw_putI (fs_9_3 (by omega)) ci_9 (by decide) rfl rfl w_327 dX9_clear_20 ?_
  refine aw_bndM (fun s_4 => ?_)
  refine aw_aload_n 0 dX9_clear_23 rfl rfl ?_
  refine aw_iconst 0 dX9_clear_24 (by decide) ?_
  refine aw_putI (fs_9_4 (by omega)) ci_9 (by decide) rfl rfl w_330 dX9_clear_25 ?_
  refine aw_bndM (fun s_5 => ?_)
  refine aw_aload_n 0 dX9_clear_28 rfl rfl ?_
  refine aw_iconst 0 dX9_clear_29 (by decide) ?_
  refine aw_putI (fs_9_7 (by omega)) ci_9 (by decide) rfl rfl w_336 dX9_clear_30 ?_
  refine aw_bndM (fun s_6 => ?_)
  refine aw_aload_n 0 dX9_clear_33 rfl rfl ?_
  refine aw_iconst 0 dX9_clear_34 (by decide) ?_
  refine aw_putI (fs_9_13 (by omega)) ci_9 (by decide) rfl rfl w_351 dX9_clear_35 ?_
  refine aw_bndM (fun s_7 => ?_)
  refine aw_aload_n 0 dX9_clear_38 rfl rfl ?_
  refine aw_iconst 0 dX9_clear_39 (by decide) ?_
  refine aw_putI (fs_9_19 (by omega)) ci_9 (by decide) rfl rfl w_366 dX9_clear_40 ?_
  refine aw_bndM (fun s_8 => ?_)
  exact aw_return rfl dX9_clear_43
def F8_refuseHere (σ : Mem) (x1 : Int32) : Option (Bool × Mem) :=
  if (gI σ 8 0 0 4) = 4 then (bnd (sI σ 8 0 0 2 1) fun s_3 => bnd (sI s_3 8 0 0 3 (gI s_3 8 0 0 12)) fun s_4 => some (false, s_4)) else (bnd (sI σ 8 0 0 2 x1) fun s_1 => bnd (sI s_1 8 0 0 3 (gI s_1 8 0 0 12)) fun s_2 => some (false, s_2))
set_option maxRecDepth 20000 in
theorem c8_refuseHere {l : Launch} {D : va_G} {ad : Nat → Nat → Nat → Nat} {cid : Nat → Nat → Nat → ClassId} (σ : Mem) (x1 : Int32) : AMF (XC l D ad cid) M8_refuseHere 0 eB [.ref (ad 8 0 0), .int x1] σ (F8_refuseHere σ x1) := by
  refine AM.ofW (by decide +kernel) (Nat.le_of_ble_eq_true rfl) (ls := [(0, .ref (ad 8 0 0)), (1, .int x1)]) rfl ?_
  refine aw_entry ?_
  unfold F8_refuseHere
  refine aw_aload_n 0 dX8_refuseHere_0 rfl rfl ?_
  refine aw_aload_n 0 dX8_refuseHere_1 rfl rfl ?_
  refine aw_getf (fg_8_4 (by decide)) ci_8 (by decide) w_261 dX8_refuseHere_2 ?_
  refine aw_iconst 4 dX8_refuseHere_5 (by decide) ?_
  refine aw_icmp_ne 13 dX8_refuseHere_6 (by decide) ?_ ?_
  · refine aw_iload_n 1 dX8_refuseHere_13 rfl rfl ?_
    refine aw_putI (fs_8_2 (by decide)) ci_8 (by decide) rfl rfl w_257 dX8_refuseHere_14 ?_
    refine aw_bndM (fun s_1 => ?_)
    refine aw_aload_n 0 dX8_refuseHere_17 rfl rfl ?_
    refine aw_aload_n 0 dX8_refuseHere_18 rfl rfl ?_
    refine aw_getf (fg_8_12 (by decide)) ci_8 (by decide) w_277 dX8_refuseHere_19 ?_
    refine aw_putI (fs_8_3 (by decide)) ci_8 (by decide) rfl rfl w_259 dX8_refuseHere_22 ?_
    refine aw_bndM (fun s_2 => ?_)
    refine aw_iconst 0 dX8_refuseHere_25 (by decide) ?_
    exact aw_zreturn (b := false) rfl rfl dX8_refuseHere_26
  · refine aw_iconst 1 dX8_refuseHere_9 (by decide) ?_
    refine aw_goto 14 dX8_refuseHere_10 (by decide) ?_
    refine aw_putI (fs_8_2 (by decide)) ci_8 (by decide) rfl rfl w_257 dX8_refuseHere_14 ?_
    refine aw_bndM (fun s_3 => ?_)
    refine aw_aload_n 0 dX8_refuseHere_17 rfl rfl ?_
    refine aw_aload_n 0 dX8_refuseHere_18 rfl rfl ?_
    refine aw_getf (fg_8_12 (by decide)) ci_8 (by decide) w_277 dX8_refuseHere_19 ?_
    refine aw_putI (fs_8_3 (by decide)) ci_8 (by decide) rfl rfl w_259 dX8_refuseHere_22 ?_
    refine aw_bndM (fun s_4 => ?_)
    refine aw_iconst 0 dX8_refuseHere_25 (by decide) ?_
    exact aw_zreturn (b := false) rfl rfl dX8_refuseHere_26
def F9_beginOnce (σ : Mem) (t0 : Nat) (x2 : Int32) : Option (Bool × Mem) :=
  bnd (1 <<< (x2 &&& 31)) fun v_1 => if ((gI σ 9 t0 0 19) &&& v_1) = 0 then (bnd (sI σ 9 t0 0 19 ((gI σ 9 t0 0 19) ||| v_1)) fun s_2 => bd (F8_advance s_2) fun _ s_3 => some (true, s_3)) else (bd (F8_refuseHere σ 5) fun v_4 s_5 => some (v_4, s_5))
set_option maxRecDepth 20000 in
theorem c9_beginOnce {l : Launch} {D : va_G} {ad : Nat → Nat → Nat → Nat} {cid : Nat → Nat → Nat → ClassId} (σ : Mem) (t0 : Nat) (ht0 : t0 < 5) (x2 : Int32) : AMF (XC l D ad cid) M9_beginOnce 3 eB [.ref (ad 9 t0 0), .ref (ad 8 0 0), .int x2] σ (F9_beginOnce σ t0 x2) := by
  refine AM.ofW (by decide +kernel) (Nat.le_of_ble_eq_true rfl) (ls := [(0, .ref (ad 9 t0 0)), (1, .ref (ad 8 0 0)), (2, .int x2)]) rfl ?_
  refine aw_entry ?_
  unfold F9_beginOnce
  refine aw_iconst 1 dX9_beginOnce_0 (by decide) ?_
  refine aw_iload_n 2 dX9_beginOnce_1 rfl rfl ?_
  refine aw_ishl dX9_beginOnce_2 ?_
  refine aw_bnd_int (fun v_1 => ?_)
  refine aw_istore_n (ls' := [(0, .ref (ad 9 t0 0)), (1, .ref (ad 8 0 0)), (3, .int v_1)]) [1, 2, 0] dX9_beginOnce_3 rfl (by decide) rfl ?_
  refine aw_aload_n 0 dX9_beginOnce_4 rfl rfl ?_
  refine aw_getf (fg_9_19 (by omega)) ci_9 (by decide) w_366 dX9_beginOnce_5 ?_
  refine aw_iload_n 2 dX9_beginOnce_8 rfl rfl ?_
  refine aw_iand dX9_beginOnce_9 ?_
  refine aw_if_eq 19 dX9_beginOnce_10 (by decide) ?_ ?_
  · refine aw_aload_n 0 dX9_beginOnce_19 rfl rfl ?_
    refine aw_dup dX9_beginOnce_20 rfl ?_
    refine aw_getf (fg_9_19 (by omega)) ci_9 (by decide) w_366 dX9_beginOnce_21 ?_
    refine aw_iload_n 2 dX9_beginOnce_24 rfl rfl ?_
    refine aw_ior dX9_beginOnce_25 ?_
    refine aw_putI (fs_9_19 (by omega)) ci_9 (by decide) rfl rfl w_366 dX9_beginOnce_26 ?_
    refine aw_bndM (fun s_2 => ?_)
    refine aw_aload_n 1 dX9_beginOnce_29 rfl rfl ?_
    refine aw_callVW_U (c8_advance s_2 ) (io_8 (by decide)) ci_8 (by decide) mk_8_advance w_870 w_871 w_903 rfl rfl (Nat.le_of_ble_eq_true rfl) dX9_beginOnce_30 (fun _ s_3 => ?_)
    refine aw_iconst 1 dX9_beginOnce_33 (by decide) ?_
    exact aw_zreturn (b := true) rfl rfl dX9_beginOnce_34
  · refine aw_aload_n 1 dX9_beginOnce_13 rfl rfl ?_
    refine aw_iconst 5 dX9_beginOnce_14 (by decide) ?_
    refine aw_callVW_B (c8_refuseHere σ 5) (io_8 (by decide)) ci_8 (by decide) mk_8_refuseHere w_900 w_901 w_899 rfl rfl (Nat.le_of_ble_eq_true rfl) dX9_beginOnce_15 (fun v_4 s_5 => ?_)
    exact aw_zreturn (b := v_4) rfl rfl dX9_beginOnce_18
def F8_takeNumber (σ : Mem) (x1 : Int32) (x2 : Int32) : Option (Bool × Mem) :=
  if (gI σ 8 0 0 4) = 2 then (if (gI σ 8 0 0 7) < x1 then (bd (F8_refuseHere σ 4) fun v_1 s_2 => some (v_1, s_2)) else (if (gI σ 8 0 0 7) ≤ x2 then (bnd (sI σ 8 0 0 9 (gI σ 8 0 0 7)) fun s_3 => bd (F8_advance s_3) fun _ s_4 => some (true, s_4)) else (bd (F8_refuseHere σ 4) fun v_5 s_6 => some (v_5, s_6)))) else (bd (F8_refuseHere σ 2) fun v_7 s_8 => some (v_7, s_8))
set_option maxRecDepth 20000 in
theorem c8_takeNumber {l : Launch} {D : va_G} {ad : Nat → Nat → Nat → Nat} {cid : Nat → Nat → Nat → ClassId} (σ : Mem) (x1 : Int32) (x2 : Int32) : AMF (XC l D ad cid) M8_takeNumber 3 eB [.ref (ad 8 0 0), .int x1, .int x2] σ (F8_takeNumber σ x1 x2) := by
  refine AM.ofW (by decide +kernel) (Nat.le_of_ble_eq_true rfl) (ls := [(0, .ref (ad 8 0 0)), (1, .int x1), (2, .int x2)]) rfl ?_
  refine aw_entry ?_
  unfold F8_takeNumber
  refine aw_aload_n 0 dX8_takeNumber_0 rfl rfl ?_
  refine aw_getf (fg_8_4 (by decide)) ci_8 (by decide) w_261 dX8_takeNumber_1 ?_
  refine aw_iconst 2 dX8_takeNumber_4 (by decide) ?_
  refine aw_icmp_eq 14 dX8_takeNumber_5 (by decide) ?_ ?_
  · refine aw_aload_n 0 dX8_takeNumber_14 rfl rfl ?_
    refine aw_getf (fg_8_7 (by decide)) ci_8 (by decide) w_270 dX8_takeNumber_15 ?_
    refine aw_iload_n 1 dX8_takeNumber_18 rfl rfl ?_
    refine aw_icmp_lt 30 dX8_takeNumber_19 (by decide) ?_ ?_
    · refine aw_aload_n 0 dX8_takeNumber_30 rfl rfl ?_
      refine aw_iconst 4 dX8_takeNumber_31 (by decide) ?_
      refine aw_callVW_B (c8_refuseHere σ 4) (io_8 (by decide)) ci_8 (by decide) mk_8_refuseHere w_900 w_901 w_908 rfl rfl (Nat.le_of_ble_eq_true rfl) dX8_takeNumber_32 (fun v_1 s_2 => ?_)
      exact aw_zreturn (b := v_1) rfl rfl dX8_takeNumber_35
    · refine aw_aload_n 0 dX8_takeNumber_22 rfl rfl ?_
      refine aw_getf (fg_8_7 (by decide)) ci_8 (by decide) w_270 dX8_takeNumber_23 ?_
      refine aw_iload_n 2 dX8_takeNumber_26 rfl rfl ?_
      refine aw_icmp_le 36 dX8_takeNumber_27 (by decide) ?_ ?_
      · refine aw_aload_n 0 dX8_takeNumber_36 rfl rfl ?_
        refine aw_aload_n 0 dX8_takeNumber_37 rfl rfl ?_
        refine aw_getf (fg_8_7 (by decide)) ci_8 (by decide) w_270 dX8_takeNumber_38 ?_
        refine aw_putI (fs_8_9 (by decide)) ci_8 (by decide) rfl rfl w_274 dX8_takeNumber_41 ?_
        refine aw_bndM (fun s_3 => ?_)
        refine aw_aload_n 0 dX8_takeNumber_44 rfl rfl ?_
        refine aw_callVW_U (c8_advance s_3 ) (io_8 (by decide)) ci_8 (by decide) mk_8_advance w_870 w_871 w_869 rfl rfl (Nat.le_of_ble_eq_true rfl) dX8_takeNumber_45 (fun _ s_4 => ?_)
        refine aw_iconst 1 dX8_takeNumber_48 (by decide) ?_
        exact aw_zreturn (b := true) rfl rfl dX8_takeNumber_49
      · refine aw_aload_n 0 dX8_takeNumber_30 rfl rfl ?_
        refine aw_iconst 4 dX8_takeNumber_31 (by decide) ?_
        refine aw_callVW_B (c8_refuseHere σ 4) (io_8 (by decide)) ci_8 (by decide) mk_8_refuseHere w_900 w_901 w_908 rfl rfl (Nat.le_of_ble_eq_true rfl) dX8_takeNumber_32 (fun v_5 s_6 => ?_)
        exact aw_zreturn (b := v_5) rfl rfl dX8_takeNumber_35
  · refine aw_aload_n 0 dX8_takeNumber_8 rfl rfl ?_
    refine aw_iconst 2 dX8_takeNumber_9 (by decide) ?_
    refine aw_callVW_B (c8_refuseHere σ 2) (io_8 (by decide)) ci_8 (by decide) mk_8_refuseHere w_900 w_901 w_908 rfl rfl (Nat.le_of_ble_eq_true rfl) dX8_takeNumber_10 (fun v_7 s_8 => ?_)
    exact aw_zreturn (b := v_7) rfl rfl dX8_takeNumber_13
def F8_skipWord (σ : Mem) (x1 : Int32) : Option (Bool × Mem) :=
  if (gI σ 8 0 0 5) = x1 then (bd (F8_advance σ) fun _ s_1 => some (true, s_1)) else (some (false, σ))
set_option maxRecDepth 20000 in
theorem c8_skipWord {l : Launch} {D : va_G} {ad : Nat → Nat → Nat → Nat} {cid : Nat → Nat → Nat → ClassId} (σ : Mem) (x1 : Int32) : AMF (XC l D ad cid) M8_skipWord 3 eB [.ref (ad 8 0 0), .int x1] σ (F8_skipWord σ x1) := by
  refine AM.ofW (by decide +kernel) (Nat.le_of_ble_eq_true rfl) (ls := [(0, .ref (ad 8 0 0)), (1, .int x1)]) rfl ?_
  refine aw_entry ?_
  unfold F8_skipWord
  refine aw_aload_n 0 dX8_skipWord_0 rfl rfl ?_
  refine aw_getf (fg_8_5 (by decide)) ci_8 (by decide) w_266 dX8_skipWord_1 ?_
  refine aw_iload_n 1 dX8_skipWord_4 rfl rfl ?_
  refine aw_icmp_eq 10 dX8_skipWord_5 (by decide) ?_ ?_
  · refine aw_aload_n 0 dX8_skipWord_10 rfl rfl ?_
    refine aw_callVW_U (c8_advance σ ) (io_8 (by decide)) ci_8 (by decide) mk_8_advance w_870 w_871 w_869 rfl rfl (Nat.le_of_ble_eq_true rfl) dX8_skipWord_11 (fun _ s_1 => ?_)
    refine aw_iconst 1 dX8_skipWord_14 (by decide) ?_
    exact aw_zreturn (b := true) rfl rfl dX8_skipWord_15
  · refine aw_iconst 0 dX8_skipWord_8 (by decide) ?_
    exact aw_zreturn (b := false) rfl rfl dX8_skipWord_9
def F8_takeWord (σ : Mem) (x1 : Int32) : Option (Bool × Mem) :=
  bd (F8_skipWord σ x1) fun v_1 s_2 => if v_1 = true then (some (true, s_2)) else (bd (F8_refuseHere s_2 2) fun v_3 s_4 => if v_3 = true then (some (true, s_4)) else (some (false, s_4)))
set_option maxRecDepth 20000 in
theorem c8_takeWord {l : Launch} {D : va_G} {ad : Nat → Nat → Nat → Nat} {cid : Nat → Nat → Nat → ClassId} (σ : Mem) (x1 : Int32) : AMF (XC l D ad cid) M8_takeWord 4 eB [.ref (ad 8 0 0), .int x1] σ (F8_takeWord σ x1) := by
  refine AM.ofW (by decide +kernel) (Nat.le_of_ble_eq_true rfl) (ls := [(0, .ref (ad 8 0 0)), (1, .int x1)]) rfl ?_
  refine aw_entry ?_
  unfold F8_takeWord
  refine aw_aload_n 0 dX8_takeWord_0 rfl rfl ?_
  refine aw_iload_n 1 dX8_takeWord_1 rfl rfl ?_
  refine aw_callVW_B (c8_skipWord σ x1) (io_8 (by decide)) ci_8 (by decide) mk_8_skipWord w_914 w_915 w_913 rfl rfl (Nat.le_of_ble_eq_true rfl) dX8_takeWord_2 (fun v_1 s_2 => ?_)
  refine aw_bif_ne 16 dX8_takeWord_5 (by decide) ?_ ?_
  · refine aw_iconst 1 dX8_takeWord_16 (by decide) ?_
    refine aw_goto 21 dX8_takeWord_17 (by decide) ?_
    exact aw_zreturn (b := true) rfl rfl dX8_takeWord_21
  · refine aw_aload_n 0 dX8_takeWord_8 rfl rfl ?_
    refine aw_iconst 2 dX8_takeWord_9 (by decide) ?_
    refine aw_callVW_B (c8_refuseHere s_2 2) (io_8 (by decide)) ci_8 (by decide) mk_8_refuseHere w_900 w_901 w_908 rfl rfl (Nat.le_of_ble_eq_true rfl) dX8_takeWord_10 (fun v_3 s_4 => ?_)
    refine aw_bif_eq 20 dX8_takeWord_13 (by decide) ?_ ?_
    · refine aw_iconst 0 dX8_takeWord_20 (by decide) ?_
      exact aw_zreturn (b := false) rfl rfl dX8_takeWord_21
    · refine aw_iconst 1 dX8_takeWord_16 (by decide) ?_
      refine aw_goto 21 dX8_takeWord_17 (by decide) ?_
      exact aw_zreturn (b := true) rfl rfl dX8_takeWord_21
def F8_takeSemicolon (σ : Mem)  : Option (Bool × Mem) :=
  if (gI σ 8 0 0 8) = 59 then (bd (F8_advance σ) fun _ s_1 => some (true, s_1)) else (bd (F8_refuseHere σ 2) fun v_2 s_3 => some (v_2, s_3))
set_option maxRecDepth 20000 in
theorem c8_takeSemicolon {l : Launch} {D : va_G} {ad : Nat → Nat → Nat → Nat} {cid : Nat → Nat → Nat → ClassId} (σ : Mem)  : AMF (XC l D ad cid) M8_takeSemicolon 3 eB [.ref (ad 8 0 0)] σ (F8_takeSemicolon σ) := by
  refine AM.ofW (by decide +kernel) (Nat.le_of_ble_eq_true rfl) (ls := [(0, .ref (ad 8 0 0))]) rfl ?_
  refine aw_entry ?_
  unfold F8_takeSemicolon
  refine aw_aload_n 0 dX8_takeSemicolon_0 rfl rfl ?_
  refine aw_getf (fg_8_8 (by decide)) ci_8 (by decide) w_271 dX8_takeSemicolon_1 ?_
  refine aw_bipush 59 dX8_takeSemicolon_4 (by decide) ?_
  refine aw_icmp_eq 15 dX8_takeSemicolon_6 (by decide) ?_ ?_
  · refine aw_aload_n 0 dX8_takeSemicolon_15 rfl rfl ?_
    refine aw_callVW_U (c8_advance σ ) (io_8 (by decide)) ci_8 (by decide) mk_8_advance w_870 w_871 w_869 rfl rfl (Nat.le_of_ble_eq_true rfl) dX8_takeSemicolon_16 (fun _ s_1 => ?_)
    refine aw_iconst 1 dX8_takeSemicolon_19 (by decide) ?_
    exact aw_zreturn (b := true) rfl rfl dX8_takeSemicolon_20
  · refine aw_aload_n 0 dX8_takeSemicolon_9 rfl rfl ?_
    refine aw_iconst 2 dX8_takeSemicolon_10 (by decide) ?_
    refine aw_callVW_B (c8_refuseHere σ 2) (io_8 (by decide)) ci_8 (by decide) mk_8_refuseHere w_900 w_901 w_908 rfl rfl (Nat.le_of_ble_eq_true rfl) dX8_takeSemicolon_11 (fun v_2 s_3 => ?_)
    exact aw_zreturn (b := v_2) rfl rfl dX8_takeSemicolon_14
def F9_parseTube (σ : Mem) (t0 : Nat) : Option (Bool × Mem) :=
  bd (F9_beginOnce σ t0 0) fun v_1 s_2 => if v_1 = true then (bd (F8_takeNumber s_2 12 48) fun v_3 s_4 => if v_3 = true then (bnd (sI s_4 9 t0 0 0 (gI s_4 8 0 0 9)) fun s_5 => bd (F8_takeWord s_5 1) fun v_6 s_7 => if v_6 = true then (bd (F8_takeNumber s_7 3 12) fun v_8 s_9 => if v_8 = true then (bnd (sI s_9 9 t0 0 1 (gI s_9 8 0 0 9)) fun s_10 => bd (F8_takeSemicolon s_10) fun v_11 s_12 => some (v_11, s_12)) else (some (false, s_9))) else (some (false, s_7))) else (some (false, s_4))) else (some (false, s_2))
set_option maxRecDepth 20000 in
theorem c9_parseTube {l : Launch} {D : va_G} {ad : Nat → Nat → Nat → Nat} {cid : Nat → Nat → Nat → ClassId} (σ : Mem) (t0 : Nat) (ht0 : t0 < 5) : AMF (XC l D ad cid) M9_parseTube 5 eB [.ref (ad 9 t0 0), .ref (ad 8 0 0)] σ (F9_parseTube σ t0) := by
  refine AM.ofW (by decide +kernel) (Nat.le_of_ble_eq_true rfl) (ls := [(0, .ref (ad 9 t0 0)), (1, .ref (ad 8 0 0))]) rfl ?_
  refine aw_entry ?_
  unfold F9_parseTube
  refine aw_aload_n 0 dX9_parseTube_0 rfl rfl ?_
  refine aw_aload_n 1 dX9_parseTube_1 rfl rfl ?_
  refine aw_iconst 0 dX9_parseTube_2 (by decide) ?_
  refine aw_callVW_B (c9_beginOnce σ t0 (by omega) 0) (io_9 (by omega)) ci_9 (by decide) mk_9_beginOnce w_897 w_7 w_895 rfl rfl (Nat.le_of_ble_eq_true rfl) dX9_parseTube_3 (fun v_1 s_2 => ?_)
  refine aw_bif_eq 20 dX9_parseTube_6 (by decide) ?_ ?_
  · refine aw_iconst 0 dX9_parseTube_20 (by decide) ?_
    exact aw_zreturn (b := false) rfl rfl dX9_parseTube_21
  · refine aw_aload_n 1 dX9_parseTube_9 rfl rfl ?_
    refine aw_bipush 12 dX9_parseTube_10 (by decide) ?_
    refine aw_bipush 48 dX9_parseTube_12 (by decide) ?_
    refine aw_callVW_B (c8_takeNumber s_2 12 48) (io_8 (by decide)) ci_8 (by decide) mk_8_takeNumber w_905 w_906 w_904 rfl rfl (Nat.le_of_ble_eq_true rfl) dX9_parseTube_14 (fun v_3 s_4 => ?_)
    refine aw_bif_ne 22 dX9_parseTube_17 (by decide) ?_ ?_
    · refine aw_aload_n 0 dX9_parseTube_22 rfl rfl ?_
      refine aw_aload_n 1 dX9_parseTube_23 rfl rfl ?_
      refine aw_getf (fg_8_9 (by decide)) ci_8 (by decide) w_272 dX9_parseTube_24 ?_
      refine aw_putI (fs_9_0 (by omega)) ci_9 (by decide) rfl rfl w_319 dX9_parseTube_27 ?_
      refine aw_bndM (fun s_5 => ?_)
      refine aw_aload_n 1 dX9_parseTube_30 rfl rfl ?_
      refine aw_iconst 1 dX9_parseTube_31 (by decide) ?_
      refine aw_callVW_B (c8_takeWord s_5 1) (io_8 (by decide)) ci_8 (by decide) mk_8_takeWord w_910 w_911 w_909 rfl rfl (Nat.le_of_ble_eq_true rfl) dX9_parseTube_32 (fun v_6 s_7 => ?_)
      refine aw_bif_eq 48 dX9_parseTube_35 (by decide) ?_ ?_
      · refine aw_iconst 0 dX9_parseTube_48 (by decide) ?_
        exact aw_zreturn (b := false) rfl rfl dX9_parseTube_49
      · refine aw_aload_n 1 dX9_parseTube_38 rfl rfl ?_
        refine aw_iconst 3 dX9_parseTube_39 (by decide) ?_
        refine aw_bipush 12 dX9_parseTube_40 (by decide) ?_
        refine aw_callVW_B (c8_takeNumber s_7 3 12) (io_8 (by decide)) ci_8 (by decide) mk_8_takeNumber w_905 w_906 w_904 rfl rfl (Nat.le_of_ble_eq_true rfl) dX9_parseTube_42 (fun v_8 s_9 => ?_)
        refine aw_bif_ne 50 dX9_parseTube_45 (by decide) ?_ ?_
        · refine aw_aload_n 0 dX9_parseTube_50 rfl rfl ?_
          refine aw_aload_n 1 dX9_parseTube_51 rfl rfl ?_
          refine aw_getf (fg_8_9 (by decide)) ci_8 (by decide) w_272 dX9_parseTube_52 ?_
          refine aw_putI (fs_9_1 (by omega)) ci_9 (by decide) rfl rfl w_322 dX9_parseTube_55 ?_
          refine aw_bndM (fun s_10 => ?_)
          refine aw_aload_n 1 dX9_parseTube_58 rfl rfl ?_
          refine aw_callVW_B (c8_takeSemicolon s_10 ) (io_8 (by decide)) ci_8 (by decide) mk_8_takeSemicolon w_918 w_919 w_917 rfl rfl (Nat.le_of_ble_eq_true rfl) dX9_parseTube_59 (fun v_11 s_12 => ?_)
          exact aw_zreturn (b := v_11) rfl rfl dX9_parseTube_62
        · refine aw_iconst 0 dX9_parseTube_48 (by decide) ?_
          exact aw_zreturn (b := false) rfl rfl dX9_parseTube_49
    · refine aw_iconst 0 dX9_parseTube_20 (by decide) ?_
      exact aw_zreturn (b := false) rfl rfl dX9_parseTube_21
def F9_parseFar (σ : Mem) (t0 : Nat) : Option (Bool × Mem) :=
  bd (F9_beginOnce σ t0 2) fun v_1 s_2 => if v_1 = true then (bd (F8_takeNumber s_2 4 20) fun v_3 s_4 => if v_3 = true then (bnd (sI s_4 9 t0 0 2 (gI s_4 8 0 0 9)) fun s_5 => bd (F8_takeSemicolon s_5) fun v_6 s_7 => some (v_6, s_7)) else (some (false, s_4))) else (some (false, s_2))
set_option maxRecDepth 20000 in
theorem c9_parseFar {l : Launch} {D : va_G} {ad : Nat → Nat → Nat → Nat} {cid : Nat → Nat → Nat → ClassId} (σ : Mem) (t0 : Nat) (ht0 : t0 < 5) : AMF (XC l D ad cid) M9_parseFar 4 eB [.ref (ad 9 t0 0), .ref (ad 8 0 0)] σ (F9_parseFar σ t0) := by
  refine AM.ofW (by decide +kernel) (Nat.le_of_ble_eq_true rfl) (ls := [(0, .ref (ad 9 t0 0)), (1, .ref (ad 8 0 0))]) rfl ?_
  refine aw_entry ?_
  unfold F9_parseFar
  refine aw_aload_n 0 dX9_parseFar_0 rfl rfl ?_
  refine aw_aload_n 1 dX9_parseFar_1 rfl rfl ?_
  refine aw_iconst 2 dX9_parseFar_2 (by decide) ?_
  refine aw_callVW_B (c9_beginOnce σ t0 (by omega) 2) (io_9 (by omega)) ci_9 (by decide) mk_9_beginOnce w_897 w_7 w_895 rfl rfl (Nat.le_of_ble_eq_true rfl) dX9_parseFar_3 (fun v_1 s_2 => ?_)
  refine aw_bif_eq 19 dX9_parseFar_6 (by decide) ?_ ?_
  · refine aw_iconst 0 dX9_parseFar_19 (by decide) ?_
    exact aw_zreturn (b := false) rfl rfl dX9_parseFar_20
  · refine aw_aload_n 1 dX9_parseFar_9 rfl rfl ?_
    refine aw_iconst 4 dX9_parseFar_10 (by decide) ?_
    refine aw_bipush 20 dX9_parseFar_11 (by decide) ?_
    refine aw_callVW_B (c8_takeNumber s_2 4 20) (io_8 (by decide)) ci_8 (by decide) mk_8_takeNumber w_905 w_906 w_904 rfl rfl (Nat.le_of_ble_eq_true rfl) dX9_parseFar_13 (fun v_3 s_4 => ?_)
    refine aw_bif_ne 21 dX9_parseFar_16 (by decide) ?_ ?_
    · refine aw_aload_n 0 dX9_parseFar_21 rfl rfl ?_
      refine aw_aload_n 1 dX9_parseFar_22 rfl rfl ?_
      refine aw_getf (fg_8_9 (by decide)) ci_8 (by decide) w_272 dX9_parseFar_23 ?_
      refine aw_putI (fs_9_2 (by omega)) ci_9 (by decide) rfl rfl w_324 dX9_parseFar_26 ?_
      refine aw_bndM (fun s_5 => ?_)
      refine aw_aload_n 1 dX9_parseFar_29 rfl rfl ?_
      refine aw_callVW_B (c8_takeSemicolon s_5 ) (io_8 (by decide)) ci_8 (by decide) mk_8_takeSemicolon w_918 w_919 w_917 rfl rfl (Nat.le_of_ble_eq_true rfl) dX9_parseFar_30 (fun v_6 s_7 => ?_)
      exact aw_zreturn (b := v_6) rfl rfl dX9_parseFar_33
    · refine aw_iconst 0 dX9_parseFar_19 (by decide) ?_
      exact aw_zreturn (b := false) rfl rfl dX9_parseFar_20
def F9_parseWind (σ : Mem) (t0 : Nat) : Option (Bool × Mem) :=
  bd (F9_beginOnce σ t0 3) fun v_1 s_2 => if v_1 = true then (bd (F8_takeNumber s_2 0 9) fun v_3 s_4 => if v_3 = true then (bnd (gI s_4 8 0 0 9) fun v_5 => bd (F8_skipWord s_4 4) fun v_6 s_7 => if v_6 = true then (bnd (sI s_7 9 t0 0 3 (-v_5)) fun s_11 => bd (F8_takeSemicolon s_11) fun v_12 s_13 => some (v_12, s_13)) else (bnd (sI s_7 9 t0 0 3 v_5) fun s_8 => bd (F8_takeSemicolon s_8) fun v_9 s_10 => some (v_9, s_10))) else (some (false, s_4))) else (some (false, s_2))
set_option maxRecDepth 20000 in
theorem c9_parseWind {l : Launch} {D : va_G} {ad : Nat → Nat → Nat → Nat} {cid : Nat → Nat → Nat → ClassId} (σ : Mem) (t0 : Nat) (ht0 : t0 < 5) : AMF (XC l D ad cid) M9_parseWind 4 eB [.ref (ad 9 t0 0), .ref (ad 8 0 0)] σ (F9_parseWind σ t0) := by
  refine AM.ofW (by decide +kernel) (Nat.le_of_ble_eq_true rfl) (ls := [(0, .ref (ad 9 t0 0)), (1, .ref (ad 8 0 0))]) rfl ?_
  refine aw_entry ?_
  unfold F9_parseWind
  refine aw_aload_n 0 dX9_parseWind_0 rfl rfl ?_
  refine aw_aload_n 1 dX9_parseWind_1 rfl rfl ?_
  refine aw_iconst 3 dX9_parseWind_2 (by decide) ?_
  refine aw_callVW_B (c9_beginOnce σ t0 (by omega) 3) (io_9 (by omega)) ci_9 (by decide) mk_9_beginOnce w_897 w_7 w_895 rfl rfl (Nat.le_of_ble_eq_true rfl) dX9_parseWind_3 (fun v_1 s_2 => ?_)
  refine aw_bif_eq 19 dX9_parseWind_6 (by decide) ?_ ?_
  · refine aw_iconst 0 dX9_parseWind_19 (by decide) ?_
    exact aw_zreturn (b := false) rfl rfl dX9_parseWind_20
  · refine aw_aload_n 1 dX9_parseWind_9 rfl rfl ?_
    refine aw_iconst 0 dX9_parseWind_10 (by decide) ?_
    refine aw_bipush 9 dX9_parseWind_11 (by decide) ?_
    refine aw_callVW_B (c8_takeNumber s_2 0 9) (io_8 (by decide)) ci_8 (by decide) mk_8_takeNumber w_905 w_906 w_904 rfl rfl (Nat.le_of_ble_eq_true rfl) dX9_parseWind_13 (fun v_3 s_4 => ?_)
    refine aw_bif_ne 21 dX9_parseWind_16 (by decide) ?_ ?_
    · refine aw_aload_n 1 dX9_parseWind_21 rfl rfl ?_
      refine aw_getf (fg_8_9 (by decide)) ci_8 (by decide) w_272 dX9_parseWind_22 ?_
      refine aw_bnd_int (fun v_5 => ?_)
      refine aw_istore_n (ls' := [(0, .ref (ad 9 t0 0)), (1, .ref (ad 8 0 0)), (2, .int v_5)]) [1, 2, 0] dX9_parseWind_25 rfl (by decide) rfl ?_
      refine aw_aload_n 0 dX9_parseWind_26 rfl rfl ?_
      refine aw_aload_n 1 dX9_parseWind_27 rfl rfl ?_
      refine aw_iconst 4 dX9_parseWind_28 (by decide) ?_
      refine aw_callVW_B (c8_skipWord s_4 4) (io_8 (by decide)) ci_8 (by decide) mk_8_skipWord w_914 w_915 w_929 rfl rfl (Nat.le_of_ble_eq_true rfl) dX9_parseWind_29 (fun v_6 s_7 => ?_)
      refine aw_bif_eq 40 dX9_parseWind_32 (by decide) ?_ ?_
      · refine aw_iload_n 2 dX9_parseWind_40 rfl rfl ?_
        refine aw_putI (fs_9_3 (by omega)) ci_9 (by decide) rfl rfl w_327 dX9_parseWind_41 ?_
        refine aw_bndM (fun s_8 => ?_)
        refine aw_aload_n 1 dX9_parseWind_44 rfl rfl ?_
        refine aw_callVW_B (c8_takeSemicolon s_8 ) (io_8 (by decide)) ci_8 (by decide) mk_8_takeSemicolon w_918 w_919 w_917 rfl rfl (Nat.le_of_ble_eq_true rfl) dX9_parseWind_45 (fun v_9 s_10 => ?_)
        exact aw_zreturn (b := v_9) rfl rfl dX9_parseWind_48
      · refine aw_iload_n 2 dX9_parseWind_35 rfl rfl ?_
        refine aw_ineg dX9_parseWind_36 ?_
        refine aw_goto 41 dX9_parseWind_37 (by decide) ?_
        refine aw_putI (fs_9_3 (by omega)) ci_9 (by decide) rfl rfl w_327 dX9_parseWind_41 ?_
        refine aw_bndM (fun s_11 => ?_)
        refine aw_aload_n 1 dX9_parseWind_44 rfl rfl ?_
        refine aw_callVW_B (c8_takeSemicolon s_11 ) (io_8 (by decide)) ci_8 (by decide) mk_8_takeSemicolon w_918 w_919 w_917 rfl rfl (Nat.le_of_ble_eq_true rfl) dX9_parseWind_45 (fun v_12 s_13 => ?_)
        exact aw_zreturn (b := v_12) rfl rfl dX9_parseWind_48
    · refine aw_iconst 0 dX9_parseWind_19 (by decide) ?_
      exact aw_zreturn (b := false) rfl rfl dX9_parseWind_20
def F9_parseRing_p66 (σ : Mem) (t0 : Nat) (x2 : Int32) (q0 : Int32) : Option (Bool × Mem) :=
  bd (F8_advance σ) fun _ s_3 => bd (F8_takeNumber s_3 1 x2) fun v_4 s_5 => if v_4 = true then (chk 6 (gI s_5 9 t0 0 4) <| bnd (sI s_5 9 t0 1 (Int32.toNatClampNeg (gI s_5 9 t0 0 4)) (gI s_5 8 0 0 9)) fun s_6 => bd (F8_takeWord s_6 6) fun v_7 s_8 => if v_7 = true then (bd (F8_takeNumber s_8 q0 20) fun v_9 s_10 => if v_9 = true then (chk 6 (gI s_10 9 t0 0 4) <| bnd (sI s_10 9 t0 2 (Int32.toNatClampNeg (gI s_10 9 t0 0 4)) (gI s_10 8 0 0 9)) fun s_11 => bnd (sI s_11 9 t0 0 4 ((gI s_11 9 t0 0 4) + 1)) fun s_12 => bd (F8_takeSemicolon s_12) fun v_13 s_14 => some (v_13, s_14)) else (some (false, s_10))) else (some (false, s_8))) else (some (false, s_5))
set_option maxRecDepth 20000 in
theorem c9_parseRing_p66 {l : Launch} {D : va_G} {ad : Nat → Nat → Nat → Nat} {cid : Nat → Nat → Nat → ClassId} (σ : Mem) (t0 : Nat) (ht0 : t0 < 5) (x2 : Int32) (q0 : Int32) : AW (XC l D ad cid) M9_parseRing 5 eB [(0, .ref (ad 9 t0 0)), (1, .ref (ad 8 0 0)), (2, .int x2)] 66 [.int q0] σ ((F9_parseRing_p66 σ t0 x2 q0).bind some) := by
  unfold F9_parseRing_p66
  refine aw_istore_n (ls' := [(0, .ref (ad 9 t0 0)), (1, .ref (ad 8 0 0)), (2, .int x2), (3, .int q0)]) [1, 2, 3, 0] dX9_parseRing_66 rfl (by decide) rfl ?_
  refine aw_aload_n 1 dX9_parseRing_67 rfl rfl ?_
  refine aw_callVW_U (c8_advance σ ) (io_8 (by decide)) ci_8 (by decide) mk_8_advance w_870 w_871 w_903 rfl rfl (Nat.le_of_ble_eq_true rfl) dX9_parseRing_68 (fun _ s_3 => ?_)
  refine aw_aload_n 1 dX9_parseRing_71 rfl rfl ?_
  refine aw_iconst 1 dX9_parseRing_72 (by decide) ?_
  refine aw_iload_n 2 dX9_parseRing_73 rfl rfl ?_
  refine aw_callVW_B (c8_takeNumber s_3 1 x2) (io_8 (by decide)) ci_8 (by decide) mk_8_takeNumber w_905 w_906 w_904 rfl rfl (Nat.le_of_ble_eq_true rfl) dX9_parseRing_74 (fun v_4 s_5 => ?_)
  refine aw_bif_ne 82 dX9_parseRing_77 (by decide) ?_ ?_
  · refine aw_aload_n 0 dX9_parseRing_82 rfl rfl ?_
    refine aw_getf (fg_9_5 (by omega)) ci_9 (by decide) w_332 dX9_parseRing_83 ?_
    refine aw_aload_n 0 dX9_parseRing_86 rfl rfl ?_
    refine aw_getf (fg_9_4 (by omega)) ci_9 (by decide) w_330 dX9_parseRing_87 ?_
    refine aw_aload_n 1 dX9_parseRing_90 rfl rfl ?_
    refine aw_getf (fg_8_9 (by decide)) ci_8 (by decide) w_272 dX9_parseRing_91 ?_
    refine aw_iastore (ar_9_1 (by omega)) dX9_parseRing_94 ?_
    refine aw_bndM (fun s_6 => ?_)
    refine aw_aload_n 1 dX9_parseRing_95 rfl rfl ?_
    refine aw_bipush 6 dX9_parseRing_96 (by decide) ?_
    refine aw_callVW_B (c8_takeWord s_6 6) (io_8 (by decide)) ci_8 (by decide) mk_8_takeWord w_910 w_911 w_909 rfl rfl (Nat.le_of_ble_eq_true rfl) dX9_parseRing_98 (fun v_7 s_8 => ?_)
    refine aw_bif_eq 114 dX9_parseRing_101 (by decide) ?_ ?_
    · refine aw_iconst 0 dX9_parseRing_114 (by decide) ?_
      exact aw_zreturn (b := false) rfl rfl dX9_parseRing_115
    · refine aw_aload_n 1 dX9_parseRing_104 rfl rfl ?_
      refine aw_iload_n 3 dX9_parseRing_105 rfl rfl ?_
      refine aw_bipush 20 dX9_parseRing_106 (by decide) ?_
      refine aw_callVW_B (c8_takeNumber s_8 q0 20) (io_8 (by decide)) ci_8 (by decide) mk_8_takeNumber w_905 w_906 w_904 rfl rfl (Nat.le_of_ble_eq_true rfl) dX9_parseRing_108 (fun v_9 s_10 => ?_)
      refine aw_bif_ne 116 dX9_parseRing_111 (by decide) ?_ ?_
      · refine aw_aload_n 0 dX9_parseRing_116 rfl rfl ?_
        refine aw_getf (fg_9_6 (by omega)) ci_9 (by decide) w_334 dX9_parseRing_117 ?_
        refine aw_aload_n 0 dX9_parseRing_120 rfl rfl ?_
        refine aw_getf (fg_9_4 (by omega)) ci_9 (by decide) w_330 dX9_parseRing_121 ?_
        refine aw_aload_n 1 dX9_parseRing_124 rfl rfl ?_
        refine aw_getf (fg_8_9 (by decide)) ci_8 (by decide) w_272 dX9_parseRing_125 ?_
        refine aw_iastore (ar_9_2 (by omega)) dX9_parseRing_128 ?_
        refine aw_bndM (fun s_11 => ?_)
        refine aw_aload_n 0 dX9_parseRing_129 rfl rfl ?_
        refine aw_dup dX9_parseRing_130 rfl ?_
        refine aw_getf (fg_9_4 (by omega)) ci_9 (by decide) w_330 dX9_parseRing_131 ?_
        refine aw_iconst 1 dX9_parseRing_134 (by decide) ?_
        refine aw_iadd dX9_parseRing_135 ?_
        refine aw_putI (fs_9_4 (by omega)) ci_9 (by decide) rfl rfl w_330 dX9_parseRing_136 ?_
        refine aw_bndM (fun s_12 => ?_)
        refine aw_aload_n 1 dX9_parseRing_139 rfl rfl ?_
        refine aw_callVW_B (c8_takeSemicolon s_12 ) (io_8 (by decide)) ci_8 (by decide) mk_8_takeSemicolon w_918 w_919 w_917 rfl rfl (Nat.le_of_ble_eq_true rfl) dX9_parseRing_140 (fun v_13 s_14 => ?_)
        exact aw_zreturn (b := v_13) rfl rfl dX9_parseRing_143
      · refine aw_iconst 0 dX9_parseRing_114 (by decide) ?_
        exact aw_zreturn (b := false) rfl rfl dX9_parseRing_115
  · refine aw_iconst 0 dX9_parseRing_80 (by decide) ?_
    exact aw_zreturn (b := false) rfl rfl dX9_parseRing_81
def F9_parseRing_p41 (σ : Mem) (t0 : Nat) (q0 : Int32) : Option (Bool × Mem) :=
  if (gI σ 9 t0 0 4) = 0 then (F9_parseRing_p66 σ t0 q0 1) else ((ald 6 (gI σ 9 t0 2) ((gI σ 9 t0 0 4) - 1)).bind fun v_2 => F9_parseRing_p66 σ t0 q0 (v_2 + 1))
set_option maxRecDepth 20000 in
theorem c9_parseRing_p41 {l : Launch} {D : va_G} {ad : Nat → Nat → Nat → Nat} {cid : Nat → Nat → Nat → ClassId} (σ : Mem) (t0 : Nat) (ht0 : t0 < 5) (q0 : Int32) : AW (XC l D ad cid) M9_parseRing 5 eB [(0, .ref (ad 9 t0 0)), (1, .ref (ad 8 0 0))] 41 [.int q0] σ ((F9_parseRing_p41 σ t0 q0).bind some) := by
  unfold F9_parseRing_p41
  refine aw_istore_n (ls' := [(0, .ref (ad 9 t0 0)), (1, .ref (ad 8 0 0)), (2, .int q0)]) [1, 2, 0] dX9_parseRing_41 rfl (by decide) rfl ?_
  refine aw_aload_n 0 dX9_parseRing_42 rfl rfl ?_
  refine aw_getf (fg_9_4 (by omega)) ci_9 (by decide) w_330 dX9_parseRing_43 ?_
  refine aw_if_ne 53 dX9_parseRing_46 (by decide) ?_ ?_
  · refine aw_aload_n 0 dX9_parseRing_53 rfl rfl ?_
    refine aw_getf (fg_9_6 (by omega)) ci_9 (by decide) w_334 dX9_parseRing_54 ?_
    refine aw_aload_n 0 dX9_parseRing_57 rfl rfl ?_
    refine aw_getf (fg_9_4 (by omega)) ci_9 (by decide) w_330 dX9_parseRing_58 ?_
    refine aw_iconst 1 dX9_parseRing_61 (by decide) ?_
    refine aw_isub dX9_parseRing_62 ?_
    refine aw_iaload (ar_9_2 (by omega)) dX9_parseRing_63 (fun v_2 => ?_)
    refine aw_iconst 1 dX9_parseRing_64 (by decide) ?_
    refine aw_iadd dX9_parseRing_65 ?_
    exact c9_parseRing_p66 σ t0 (by omega) q0 (v_2 + 1)
  · refine aw_iconst 1 dX9_parseRing_49 (by decide) ?_
    refine aw_goto 66 dX9_parseRing_50 (by decide) ?_
    exact c9_parseRing_p66 σ t0 (by omega) q0 1
def F9_parseRing (σ : Mem) (t0 : Nat) : Option (Bool × Mem) :=
  if (gI σ 9 t0 0 4) < 6 then (if (gI σ 9 t0 0 4) = 0 then (F9_parseRing_p41 σ t0 60) else ((ald 6 (gI σ 9 t0 1) ((gI σ 9 t0 0 4) - 1)).bind fun v_1 => F9_parseRing_p41 σ t0 (v_1 - 1))) else (bd (F8_refuseHere σ 6) fun v_15 s_16 => some (v_15, s_16))
set_option maxRecDepth 20000 in
theorem c9_parseRing {l : Launch} {D : va_G} {ad : Nat → Nat → Nat → Nat} {cid : Nat → Nat → Nat → ClassId} (σ : Mem) (t0 : Nat) (ht0 : t0 < 5) : AMF (XC l D ad cid) M9_parseRing 5 eB [.ref (ad 9 t0 0), .ref (ad 8 0 0)] σ (F9_parseRing σ t0) := by
  refine AM.ofW (by decide +kernel) (Nat.le_of_ble_eq_true rfl) (ls := [(0, .ref (ad 9 t0 0)), (1, .ref (ad 8 0 0))]) rfl ?_
  refine aw_entry ?_
  unfold F9_parseRing
  refine aw_aload_n 0 dX9_parseRing_0 rfl rfl ?_
  refine aw_getf (fg_9_4 (by omega)) ci_9 (by decide) w_330 dX9_parseRing_1 ?_
  refine aw_bipush 6 dX9_parseRing_4 (by decide) ?_
  refine aw_icmp_lt 16 dX9_parseRing_6 (by decide) ?_ ?_
  · refine aw_aload_n 0 dX9_parseRing_16 rfl rfl ?_
    refine aw_getf (fg_9_4 (by omega)) ci_9 (by decide) w_330 dX9_parseRing_17 ?_
    refine aw_if_ne 28 dX9_parseRing_20 (by decide) ?_ ?_
    · refine aw_aload_n 0 dX9_parseRing_28 rfl rfl ?_
      refine aw_getf (fg_9_5 (by omega)) ci_9 (by decide) w_332 dX9_parseRing_29 ?_
      refine aw_aload_n 0 dX9_parseRing_32 rfl rfl ?_
      refine aw_getf (fg_9_4 (by omega)) ci_9 (by decide) w_330 dX9_parseRing_33 ?_
      refine aw_iconst 1 dX9_parseRing_36 (by decide) ?_
      refine aw_isub dX9_parseRing_37 ?_
      refine aw_iaload (ar_9_1 (by omega)) dX9_parseRing_38 (fun v_1 => ?_)
      refine aw_iconst 1 dX9_parseRing_39 (by decide) ?_
      refine aw_isub dX9_parseRing_40 ?_
      exact c9_parseRing_p41 σ t0 (by omega) (v_1 - 1)
    · refine aw_bipush 60 dX9_parseRing_23 (by decide) ?_
      refine aw_goto 41 dX9_parseRing_25 (by decide) ?_
      exact c9_parseRing_p41 σ t0 (by omega) 60
  · refine aw_aload_n 1 dX9_parseRing_9 rfl rfl ?_
    refine aw_bipush 6 dX9_parseRing_10 (by decide) ?_
    refine aw_callVW_B (c8_refuseHere σ 6) (io_8 (by decide)) ci_8 (by decide) mk_8_refuseHere w_900 w_901 w_899 rfl rfl (Nat.le_of_ble_eq_true rfl) dX9_parseRing_12 (fun v_15 s_16 => ?_)
    exact aw_zreturn (b := v_15) rfl rfl dX9_parseRing_15
def F8_atName (σ : Mem)  : Bool :=
  if (gI σ 8 0 0 4) = 1 then (if (gI σ 8 0 0 5) = (-1) then (if (gL σ 8 0 0 6) = 0 then (false) else (true)) else (false)) else (false)
set_option maxRecDepth 20000 in
theorem c8_atName {l : Launch} {D : va_G} {ad : Nat → Nat → Nat → Nat} {cid : Nat → Nat → Nat → ClassId} (σ : Mem)  : AMF (XC l D ad cid) M8_atName 0 eB [.ref (ad 8 0 0)] σ (some (F8_atName σ, σ)) := by
  refine AM.ofW (by decide +kernel) (Nat.le_of_ble_eq_true rfl) (ls := [(0, .ref (ad 8 0 0))]) rfl ?_
  refine aw_entryT ?_
  unfold F8_atName
  refine aw_aload_n 0 dX8_atName_0 rfl rfl ?_
  refine aw_getf (fg_8_4 (by decide)) ci_8 (by decide) w_261 dX8_atName_1 ?_
  refine aw_iconst 1 dX8_atName_4 (by decide) ?_
  refine aw_iteT ?_
  refine aw_icmp_ne 29 dX8_atName_5 (by decide) ?_ ?_
  · refine aw_iconst 0 dX8_atName_29 (by decide) ?_
    exact aw_zreturn (b := false) rfl rfl dX8_atName_30
  · refine aw_aload_n 0 dX8_atName_8 rfl rfl ?_
    refine aw_getf (fg_8_5 (by decide)) ci_8 (by decide) w_266 dX8_atName_9 ?_
    refine aw_iconst (-1) dX8_atName_12 (by decide) ?_
    refine aw_iteT ?_
    refine aw_icmp_ne 29 dX8_atName_13 (by decide) ?_ ?_
    · refine aw_iconst 0 dX8_atName_29 (by decide) ?_
      exact aw_zreturn (b := false) rfl rfl dX8_atName_30
    · refine aw_aload_n 0 dX8_atName_16 rfl rfl ?_
      refine aw_getf (fg_8_6 (by decide)) ci_8 (by decide) w_267 dX8_atName_17 ?_
      refine aw_lconst 0 dX8_atName_20 (by decide) ?_
      refine aw_lcmp dX8_atName_21 ?_
      refine aw_iteT ?_
      refine aw_lif_eq 29 dX8_atName_22 (by decide) ?_ ?_
      · refine aw_iconst 0 dX8_atName_29 (by decide) ?_
        exact aw_zreturn (b := false) rfl rfl dX8_atName_30
      · refine aw_iconst 1 dX8_atName_25 (by decide) ?_
        refine aw_goto 30 dX8_atName_26 (by decide) ?_
        exact aw_zreturn (b := true) rfl rfl dX8_atName_30
def F9_findPea_L2 (t0 : Nat) (y1 : Int64) : Nat → Mem → Int32 → Option Int32
  | 0 => fun _ _ => none
  | n + 1 => fun σ x3 =>
    if (gI σ 9 t0 0 7) ≤ x3 then (some (-1)) else ((ald 8 (gL σ 9 t0 3) x3).bind fun v_1 => if v_1 = y1 then (some x3) else ((F9_findPea_L2 t0 y1 n) σ (x3 + 1)))
set_option maxRecDepth 20000 in
theorem c9_findPea_L2 {l : Launch} {D : va_G} {ad : Nat → Nat → Nat → Nat} {cid : Nat → Nat → Nat → ClassId} (t0 : Nat) (ht0 : t0 < 5) (y1 : Int64) : ∀ (n : Nat) (σ : Mem) (x3 : Int32), AW (XC l D ad cid) M9_findPea 0 eI [(0, .ref (ad 9 t0 0)), (1, .long y1), (3, .int x3)] 2 [] σ ((F9_findPea_L2 t0 y1 n σ x3).bind (fun v => some (v, σ))) := by
  intro n
  induction n with
  | zero => intros; exact aw_none
  | succ n ih =>
    intro σ x3
    rw [F9_findPea_L2.eq_2]
    refine aw_iload_n 2 dX9_findPea_2 rfl rfl ?_
    refine aw_aload_n 0 dX9_findPea_3 rfl rfl ?_
    refine aw_getf (fg_9_7 (by omega)) ci_9 (by decide) w_336 dX9_findPea_4 ?_
    refine aw_icmp_ge 29 dX9_findPea_7 (by decide) ?_ ?_
    · refine aw_iconst (-1) dX9_findPea_29 (by decide) ?_
      exact aw_ireturn rfl dX9_findPea_30
    · refine aw_aload_n 0 dX9_findPea_10 rfl rfl ?_
      refine aw_getf (fg_9_8 (by omega)) ci_9 (by decide) w_339 dX9_findPea_11 ?_
      refine aw_iload_n 2 dX9_findPea_14 rfl rfl ?_
      refine aw_laload (ar_9_3 (by omega)) dX9_findPea_15 (fun v_1 => ?_)
      refine aw_lload_n 1 dX9_findPea_16 rfl rfl ?_
      refine aw_lcmp dX9_findPea_17 ?_
      refine aw_lif_ne 23 dX9_findPea_18 (by decide) ?_ ?_
      · refine aw_iinc (ls' := [(0, .ref (ad 9 t0 0)), (1, .long y1), (3, .int (x3 + 1))]) (x3 + 1) 2 [1, 2, 0] dX9_findPea_23 rfl (by rfl) (by decide) rfl ?_
        refine aw_goto 2 dX9_findPea_26 (by decide) ?_
        exact ih σ (x3 + 1)
      · refine aw_iload_n 2 dX9_findPea_21 rfl rfl ?_
        exact aw_ireturn rfl dX9_findPea_22
def F9_findPea (σ : Mem) (t0 : Nat) (y1 : Int64) : Option Int32 :=
  F9_findPea_L2 t0 y1 fuelK σ 0
set_option maxRecDepth 20000 in
theorem c9_findPea {l : Launch} {D : va_G} {ad : Nat → Nat → Nat → Nat} {cid : Nat → Nat → Nat → ClassId} (σ : Mem) (t0 : Nat) (ht0 : t0 < 5) (y1 : Int64) : AMF (XC l D ad cid) M9_findPea 0 eI [.ref (ad 9 t0 0), .long y1] σ (oM σ (F9_findPea σ t0 y1)) := by
  refine AM.ofW (by decide +kernel) (Nat.le_of_ble_eq_true rfl) (ls := [(0, .ref (ad 9 t0 0)), (1, .long y1)]) rfl ?_
  refine aw_entryO ?_
  unfold F9_findPea
  refine aw_iconst 0 dX9_findPea_0 (by decide) ?_
  refine aw_istore_n (ls' := [(0, .ref (ad 9 t0 0)), (1, .long y1), (3, .int 0)]) [1, 2, 0] dX9_findPea_1 rfl (by decide) rfl ?_
  exact c9_findPea_L2 t0 (by omega) y1 fuelK σ 0
def F9_findShooter_L2 (t0 : Nat) (y1 : Int64) : Nat → Mem → Int32 → Option Int32
  | 0 => fun _ _ => none
  | n + 1 => fun σ x3 =>
    if (gI σ 9 t0 0 13) ≤ x3 then (some (-1)) else ((ald 6 (gL σ 9 t0 8) x3).bind fun v_1 => if v_1 = y1 then (some x3) else ((F9_findShooter_L2 t0 y1 n) σ (x3 + 1)))
set_option maxRecDepth 20000 in
theorem c9_findShooter_L2 {l : Launch} {D : va_G} {ad : Nat → Nat → Nat → Nat} {cid : Nat → Nat → Nat → ClassId} (t0 : Nat) (ht0 : t0 < 5) (y1 : Int64) : ∀ (n : Nat) (σ : Mem) (x3 : Int32), AW (XC l D ad cid) M9_findShooter 0 eI [(0, .ref (ad 9 t0 0)), (1, .long y1), (3, .int x3)] 2 [] σ ((F9_findShooter_L2 t0 y1 n σ x3).bind (fun v => some (v, σ))) := by
  intro n
  induction n with
  | zero => intros; exact aw_none
  | succ n ih =>
    intro σ x3
    rw [F9_findShooter_L2.eq_2]
    refine aw_iload_n 2 dX9_findShooter_2 rfl rfl ?_
    refine aw_aload_n 0 dX9_findShooter_3 rfl rfl ?_
    refine aw_getf (fg_9_13 (by omega)) ci_9 (by decide) w_351 dX9_findShooter_4 ?_
    refine aw_icmp_ge 29 dX9_findShooter_7 (by decide) ?_ ?_
    · refine aw_iconst (-1) dX9_findShooter_29 (by decide) ?_
      exact aw_ireturn rfl dX9_findShooter_30
    · refine aw_aload_n 0 dX9_findShooter_10 rfl rfl ?_
      refine aw_getf (fg_9_14 (by omega)) ci_9 (by decide) w_354 dX9_findShooter_11 ?_
      refine aw_iload_n 2 dX9_findShooter_14 rfl rfl ?_
      refine aw_laload (ar_9_8 (by omega)) dX9_findShooter_15 (fun v_1 => ?_)
      refine aw_lload_n 1 dX9_findShooter_16 rfl rfl ?_
      refine aw_lcmp dX9_findShooter_17 ?_
      refine aw_lif_ne 23 dX9_findShooter_18 (by decide) ?_ ?_
      · refine aw_iinc (ls' := [(0, .ref (ad 9 t0 0)), (1, .long y1), (3, .int (x3 + 1))]) (x3 + 1) 2 [1, 2, 0] dX9_findShooter_23 rfl (by rfl) (by decide) rfl ?_
        refine aw_goto 2 dX9_findShooter_26 (by decide) ?_
        exact ih σ (x3 + 1)
      · refine aw_iload_n 2 dX9_findShooter_21 rfl rfl ?_
        exact aw_ireturn rfl dX9_findShooter_22
def F9_findShooter (σ : Mem) (t0 : Nat) (y1 : Int64) : Option Int32 :=
  F9_findShooter_L2 t0 y1 fuelK σ 0
set_option maxRecDepth 20000 in
theorem c9_findShooter {l : Launch} {D : va_G} {ad : Nat → Nat → Nat → Nat} {cid : Nat → Nat → Nat → ClassId} (σ : Mem) (t0 : Nat) (ht0 : t0 < 5) (y1 : Int64) : AMF (XC l D ad cid) M9_findShooter 0 eI [.ref (ad 9 t0 0), .long y1] σ (oM σ (F9_findShooter σ t0 y1)) := by
  refine AM.ofW (by decide +kernel) (Nat.le_of_ble_eq_true rfl) (ls := [(0, .ref (ad 9 t0 0)), (1, .long y1)]) rfl ?_
  refine aw_entryO ?_
  unfold F9_findShooter
  refine aw_iconst 0 dX9_findShooter_0 (by decide) ?_
  refine aw_istore_n (ls' := [(0, .ref (ad 9 t0 0)), (1, .long y1), (3, .int 0)]) [1, 2, 0] dX9_findShooter_1 rfl (by decide) rfl ?_
  exact c9_findShooter_L2 t0 (by omega) y1 fuelK σ 0
def F9_takeNewName (σ : Mem) (t0 : Nat) : Option (Bool × Mem) :=
  if (F8_atName σ) = true then ((F9_findPea σ t0 (gL σ 8 0 0 6)).bind fun v_1 => if v_1 = (-1) then ((F9_findShooter σ t0 (gL σ 8 0 0 6)).bind fun v_4 => if v_4 = (-1) then (bd (F8_advance σ) fun _ s_5 => some (true, s_5)) else (bd (F8_refuseHere σ 3) fun v_6 s_7 => some (v_6, s_7))) else (bd (F8_refuseHere σ 3) fun v_2 s_3 => some (v_2, s_3))) else (bd (F8_refuseHere σ 2) fun v_8 s_9 => some (v_8, s_9))
set_option maxRecDepth 20000 in
theorem c9_takeNewName {l : Launch} {D : va_G} {ad : Nat → Nat → Nat → Nat} {cid : Nat → Nat → Nat → ClassId} (σ : Mem) (t0 : Nat) (ht0 : t0 < 5) : AMF (XC l D ad cid) M9_takeNewName 3 eB [.ref (ad 9 t0 0), .ref (ad 8 0 0)] σ (F9_takeNewName σ t0) := by
  refine AM.ofW (by decide +kernel) (Nat.le_of_ble_eq_true rfl) (ls := [(0, .ref (ad 9 t0 0)), (1, .ref (ad 8 0 0))]) rfl ?_
  refine aw_entry ?_
  unfold F9_takeNewName
  refine aw_aload_n 1 dX9_takeNewName_0 rfl rfl ?_
  refine aw_callVT_B (c8_atName σ ) (io_8 (by decide)) ci_8 (by decide) mk_8_atName w_943 w_944 w_942 rfl rfl (Nat.le_of_ble_eq_true rfl) dX9_takeNewName_1 ?_
  refine aw_bif_ne 13 dX9_takeNewName_4 (by decide) ?_ ?_
  · refine aw_aload_n 0 dX9_takeNewName_13 rfl rfl ?_
    refine aw_aload_n 1 dX9_takeNewName_14 rfl rfl ?_
    refine aw_getf (fg_8_6 (by decide)) ci_8 (by decide) w_269 dX9_takeNewName_15 ?_
    refine aw_callVO_I (c9_findPea σ t0 (by omega) (gL σ 8 0 0 6)) (io_9 (by omega)) ci_9 (by decide) mk_9_findPea w_947 w_948 w_946 rfl rfl (Nat.le_of_ble_eq_true rfl) dX9_takeNewName_18 (fun v_1 => ?_)
    refine aw_iconst (-1) dX9_takeNewName_21 (by decide) ?_
    refine aw_icmp_ne 37 dX9_takeNewName_22 (by decide) ?_ ?_
    · refine aw_aload_n 1 dX9_takeNewName_37 rfl rfl ?_
      refine aw_iconst 3 dX9_takeNewName_38 (by decide) ?_
      refine aw_callVW_B (c8_refuseHere σ 3) (io_8 (by decide)) ci_8 (by decide) mk_8_refuseHere w_900 w_901 w_899 rfl rfl (Nat.le_of_ble_eq_true rfl) dX9_takeNewName_39 (fun v_2 s_3 => ?_)
      exact aw_zreturn (b := v_2) rfl rfl dX9_takeNewName_42
    · refine aw_aload_n 0 dX9_takeNewName_25 rfl rfl ?_
      refine aw_aload_n 1 dX9_takeNewName_26 rfl rfl ?_
      refine aw_getf (fg_8_6 (by decide)) ci_8 (by decide) w_269 dX9_takeNewName_27 ?_
      refine aw_callVO_I (c9_findShooter σ t0 (by omega) (gL σ 8 0 0 6)) (io_9 (by omega)) ci_9 (by decide) mk_9_findShooter w_951 w_952 w_950 rfl rfl (Nat.le_of_ble_eq_true rfl) dX9_takeNewName_30 (fun v_4 => ?_)
      refine aw_iconst (-1) dX9_takeNewName_33 (by decide) ?_
      refine aw_icmp_eq 43 dX9_takeNewName_34 (by decide) ?_ ?_
      · refine aw_aload_n 1 dX9_takeNewName_43 rfl rfl ?_
        refine aw_callVW_U (c8_advance σ ) (io_8 (by decide)) ci_8 (by decide) mk_8_advance w_870 w_871 w_903 rfl rfl (Nat.le_of_ble_eq_true rfl) dX9_takeNewName_44 (fun _ s_5 => ?_)
        refine aw_iconst 1 dX9_takeNewName_47 (by decide) ?_
        exact aw_zreturn (b := true) rfl rfl dX9_takeNewName_48
      · refine aw_aload_n 1 dX9_takeNewName_37 rfl rfl ?_
        refine aw_iconst 3 dX9_takeNewName_38 (by decide) ?_
        refine aw_callVW_B (c8_refuseHere σ 3) (io_8 (by decide)) ci_8 (by decide) mk_8_refuseHere w_900 w_901 w_899 rfl rfl (Nat.le_of_ble_eq_true rfl) dX9_takeNewName_39 (fun v_6 s_7 => ?_)
        exact aw_zreturn (b := v_6) rfl rfl dX9_takeNewName_42
  · refine aw_aload_n 1 dX9_takeNewName_7 rfl rfl ?_
    refine aw_iconst 2 dX9_takeNewName_8 (by decide) ?_
    refine aw_callVW_B (c8_refuseHere σ 2) (io_8 (by decide)) ci_8 (by decide) mk_8_refuseHere w_900 w_901 w_899 rfl rfl (Nat.le_of_ble_eq_true rfl) dX9_takeNewName_9 (fun v_8 s_9 => ?_)
    exact aw_zreturn (b := v_8) rfl rfl dX9_takeNewName_12
