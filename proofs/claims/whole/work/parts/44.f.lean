def F12_waysOf_L5 (σ : Mem) (x1 : Int32) : Nat → Int64 → Int32 → Option (Int64)
  | 0 => fun _ _ => none
  | n + 1 => fun y2 x4 =>
    if x1 ≤ x4 then (some y2) else (bnd (y2 * (Int32.toInt64 (gI σ 12 0 0 33))) fun v_1 => (F12_waysOf_L5 σ x1 n) v_1 (x4 + 1))
set_option maxRecDepth 20000 in
theorem c12_waysOf_L5 {l : Launch} {D : va_G} {ad : Nat → Nat → Nat → Nat} {cid : Nat → Nat → Nat → ClassId} {α : Type} {emb : α → Option Value} (σ : Mem) (x1 : Int32) {G : Int64 → Option (α × Mem)} (kx : ∀ r, AW (XM l D ad cid) M12_waysOf 0 emb [(2, .long r)] 25 [] σ (G r)) : ∀ (n : Nat) (y2 : Int64) (x4 : Int32), AW (XM l D ad cid) M12_waysOf 0 emb [(0, .ref (ad 12 0 0)), (1, .int x1), (2, .long y2), (4, .int x4)] 5 [] σ ((F12_waysOf_L5 σ x1 n y2 x4).bind G) := by
  intro n
  induction n with
  | zero => intros; exact aw_none
  | succ n ih =>
    intro y2 x4
    rw [F12_waysOf_L5.eq_2]
    refine aw_iload 3 dX12_waysOf_5 rfl ?_
    refine aw_iload_n 1 dX12_waysOf_7 rfl rfl ?_
    refine aw_icmp_ge 25 dX12_waysOf_8 (by decide) ?_ ?_
    · refine aw_ls (ls' := [(2, .long y2)]) [2] rfl ?_
      exact kx y2
    · refine aw_lload_n 2 dX12_waysOf_11 rfl rfl ?_
      refine aw_aload_n 0 dX12_waysOf_12 rfl rfl ?_
      refine aw_getf (fg_12_33 (by decide)) ci_12 (by decide) w_1491 dX12_waysOf_13 ?_
      refine aw_i2l dX12_waysOf_16 ?_
      refine aw_lmul dX12_waysOf_17 ?_
      refine aw_bnd_long (fun v_1 => ?_)
      refine aw_lstore_n (ls' := [(0, .ref (ad 12 0 0)), (1, .int x1), (2, .long v_1), (4, .int x4)]) [1, 2, 0, 3] dX12_waysOf_18 rfl (by decide) rfl ?_
      refine aw_iinc (ls' := [(0, .ref (ad 12 0 0)), (1, .int x1), (2, .long v_1), (4, .int (x4 + 1))]) (x4 + 1) 3 [1, 2, 3, 0] dX12_waysOf_19 rfl (by rfl) (by decide) rfl ?_
      refine aw_goto 5 dX12_waysOf_22 (by decide) ?_
      exact ih v_1 (x4 + 1)
def F12_waysOf (σ : Mem) (x1 : Int32) : Option Int64 :=
  (F12_waysOf_L5 σ x1 fuelK 1 0).bind fun r_2 => some r_2
set_option maxRecDepth 20000 in
theorem c12_waysOf {l : Launch} {D : va_G} {ad : Nat → Nat → Nat → Nat} {cid : Nat → Nat → Nat → ClassId} (σ : Mem) (x1 : Int32) : AMF (XM l D ad cid) M12_waysOf 0 eL [.ref (ad 12 0 0), .int x1] σ (oM σ (F12_waysOf σ x1)) := by
  refine AM.ofW (by decide +kernel) (Nat.le_of_ble_eq_true rfl) (ls := [(0, .ref (ad 12 0 0)), (1, .int x1)]) rfl ?_
  refine aw_entryO ?_
  unfold F12_waysOf
  refine aw_lconst 1 dX12_waysOf_0 (by decide) ?_
  refine aw_lstore_n (ls' := [(0, .ref (ad 12 0 0)), (1, .int x1), (2, .long 1)]) [1, 2, 0] dX12_waysOf_1 rfl (by decide) rfl ?_
  refine aw_iconst 0 dX12_waysOf_2 (by decide) ?_
  refine aw_istore (ls' := [(0, .ref (ad 12 0 0)), (1, .int x1), (2, .long 1), (4, .int 0)]) [1, 2, 3, 0] dX12_waysOf_3 (by decide) rfl ?_
  refine aw_assoc ?_
  refine c12_waysOf_L5 σ x1 (fun r_2 => ?_) fuelK 1 0
  refine aw_lload_n 0 dX12_waysOf_25 rfl rfl ?_
  exact aw_lreturn rfl dX12_waysOf_26
def F12_turns_L128 (σ : Mem) (x6 : Int32) (x9 : Int32) : Nat → Int64 → Int32 → Option (Int64)
  | 0 => fun _ _ => none
  | n + 1 => fun y7 x10 =>
    if 101 ≤ x10 then (some y7) else (if x6 = 0 then (if x9 ≤ x10 then ((F12_turns_L128 σ x6 x9 n) y7 (x10 + 1)) else ((ald 101 (gL σ 12 0 9) x9).bind fun v_21 => (ald 101 (gL σ 12 0 10) x10).bind fun v_22 => bnd (y7 + (v_21 * v_22)) fun v_23 => (F12_turns_L128 σ x6 x9 n) v_23 (x10 + 1))) else (if x6 = 1 then (if x9 = x10 then ((ald 101 (gL σ 12 0 9) x9).bind fun v_18 => (ald 101 (gL σ 12 0 10) x10).bind fun v_19 => bnd (y7 + (v_18 * v_19)) fun v_20 => (F12_turns_L128 σ x6 x9 n) v_20 (x10 + 1)) else ((F12_turns_L128 σ x6 x9 n) y7 (x10 + 1))) else (if x10 ≤ x9 then ((F12_turns_L128 σ x6 x9 n) y7 (x10 + 1)) else ((ald 101 (gL σ 12 0 9) x9).bind fun v_15 => (ald 101 (gL σ 12 0 10) x10).bind fun v_16 => bnd (y7 + (v_15 * v_16)) fun v_17 => (F12_turns_L128 σ x6 x9 n) v_17 (x10 + 1)))))
set_option maxRecDepth 20000 in
theorem c12_turns_L128 {l : Launch} {D : va_G} {ad : Nat → Nat → Nat → Nat} {cid : Nat → Nat → Nat → ClassId} {α : Type} {emb : α → Option Value} (σ : Mem) (x6 : Int32) (x9 : Int32) {G : Int64 → Option (α × Mem)} (kx : ∀ r, AW (XM l D ad cid) M12_turns 6 emb [(0, .ref (ad 12 0 0)), (6, .int x6), (7, .long r), (9, .int x9)] 199 [] σ (G r)) : ∀ (n : Nat) (y7 : Int64) (x10 : Int32), AW (XM l D ad cid) M12_turns 6 emb [(0, .ref (ad 12 0 0)), (6, .int x6), (7, .long y7), (9, .int x9), (10, .int x10)] 128 [] σ ((F12_turns_L128 σ x6 x9 n y7 x10).bind G) := by
  intro n
  induction n with
  | zero => intros; exact aw_none
  | succ n ih =>
    intro y7 x10
    rw [F12_turns_L128.eq_2]
    refine aw_iload 4 dX12_turns_128 rfl ?_
    refine aw_bipush 101 dX12_turns_130 (by decide) ?_
    refine aw_icmp_ge 199 dX12_turns_132 (by decide) ?_ ?_
    · refine aw_ls (ls' := [(0, .ref (ad 12 0 0)), (6, .int x6), (7, .long y7), (9, .int x9)]) [0, 1, 2, 3] rfl ?_
      exact kx y7
    · refine aw_iload 1 dX12_turns_135 rfl ?_
      refine aw_if_ne 150 dX12_turns_137 (by decide) ?_ ?_
      · refine aw_iload 1 dX12_turns_150 rfl ?_
        refine aw_iconst 1 dX12_turns_152 (by decide) ?_
        refine aw_icmp_ne 166 dX12_turns_153 (by decide) ?_ ?_
        · refine aw_iload 3 dX12_turns_166 rfl ?_
          refine aw_iload 4 dX12_turns_168 rfl ?_
          refine aw_icmp_ge 193 dX12_turns_170 (by decide) ?_ ?_
          · refine aw_iinc (ls' := [(0, .ref (ad 12 0 0)), (6, .int x6), (7, .long y7), (9, .int x9), (10, .int (x10 + 1))]) (x10 + 1) 4 [1, 2, 3, 4, 0] dX12_turns_193 rfl (by rfl) (by decide) rfl ?_
            refine aw_goto 128 dX12_turns_196 (by decide) ?_
            exact ih y7 (x10 + 1)
          · refine aw_lload 2 dX12_turns_173 rfl ?_
            refine aw_aload_n 0 dX12_turns_175 rfl rfl ?_
            refine aw_getf (fg_12_37 (by decide)) ci_12 (by decide) w_1495 dX12_turns_176 ?_
            refine aw_iload 3 dX12_turns_179 rfl ?_
            refine aw_laload (ar_12_9 (by decide)) dX12_turns_181 (fun v_15 => ?_)
            refine aw_aload_n 0 dX12_turns_182 rfl rfl ?_
            refine aw_getf (fg_12_38 (by decide)) ci_12 (by decide) w_1496 dX12_turns_183 ?_
            refine aw_iload 4 dX12_turns_186 rfl ?_
            refine aw_laload (ar_12_10 (by decide)) dX12_turns_188 (fun v_16 => ?_)
            refine aw_lmul dX12_turns_189 ?_
            refine aw_ladd dX12_turns_190 ?_
            refine aw_bnd_long (fun v_17 => ?_)
            refine aw_lstore (ls' := [(0, .ref (ad 12 0 0)), (6, .int x6), (7, .long v_17), (9, .int x9), (10, .int x10)]) [1, 2, 0, 3, 4] dX12_turns_191 (by decide) rfl ?_
            refine aw_iinc (ls' := [(0, .ref (ad 12 0 0)), (6, .int x6), (7, .long v_17), (9, .int x9), (10, .int (x10 + 1))]) (x10 + 1) 4 [1, 2, 3, 4, 0] dX12_turns_193 rfl (by rfl) (by decide) rfl ?_
            refine aw_goto 128 dX12_turns_196 (by decide) ?_
            exact ih v_17 (x10 + 1)
        · refine aw_iload 3 dX12_turns_156 rfl ?_
          refine aw_iload 4 dX12_turns_158 rfl ?_
          refine aw_icmp_ne 193 dX12_turns_160 (by decide) ?_ ?_
          · refine aw_iinc (ls' := [(0, .ref (ad 12 0 0)), (6, .int x6), (7, .long y7), (9, .int x9), (10, .int (x10 + 1))]) (x10 + 1) 4 [1, 2, 3, 4, 0] dX12_turns_193 rfl (by rfl) (by decide) rfl ?_
            refine aw_goto 128 dX12_turns_196 (by decide) ?_
            exact ih y7 (x10 + 1)
          · refine aw_goto 173 dX12_turns_163 (by decide) ?_
            refine aw_lload 2 dX12_turns_173 rfl ?_
            refine aw_aload_n 0 dX12_turns_175 rfl rfl ?_
            refine aw_getf (fg_12_37 (by decide)) ci_12 (by decide) w_1495 dX12_turns_176 ?_
            refine aw_iload 3 dX12_turns_179 rfl ?_
            refine aw_laload (ar_12_9 (by decide)) dX12_turns_181 (fun v_18 => ?_)
            refine aw_aload_n 0 dX12_turns_182 rfl rfl ?_
            refine aw_getf (fg_12_38 (by decide)) ci_12 (by decide) w_1496 dX12_turns_183 ?_
            refine aw_iload 4 dX12_turns_186 rfl ?_
            refine aw_laload (ar_12_10 (by decide)) dX12_turns_188 (fun v_19 => ?_)
            refine aw_lmul dX12_turns_189 ?_
            refine aw_ladd dX12_turns_190 ?_
            refine aw_bnd_long (fun v_20 => ?_)
            refine aw_lstore (ls' := [(0, .ref (ad 12 0 0)), (6, .int x6), (7, .long v_20), (9, .int x9), (10, .int x10)]) [1, 2, 0, 3, 4] dX12_turns_191 (by decide) rfl ?_
            refine aw_iinc (ls' := [(0, .ref (ad 12 0 0)), (6, .int x6), (7, .long v_20), (9, .int x9), (10, .int (x10 + 1))]) (x10 + 1) 4 [1, 2, 3, 4, 0] dX12_turns_193 rfl (by rfl) (by decide) rfl ?_
            refine aw_goto 128 dX12_turns_196 (by decide) ?_
            exact ih v_20 (x10 + 1)
      · refine aw_iload 3 dX12_turns_140 rfl ?_
        refine aw_iload 4 dX12_turns_142 rfl ?_
        refine aw_icmp_le 193 dX12_turns_144 (by decide) ?_ ?_
        · refine aw_iinc (ls' := [(0, .ref (ad 12 0 0)), (6, .int x6), (7, .long y7), (9, .int x9), (10, .int (x10 + 1))]) (x10 + 1) 4 [1, 2, 3, 4, 0] dX12_turns_193 rfl (by rfl) (by decide) rfl ?_
          refine aw_goto 128 dX12_turns_196 (by decide) ?_
          exact ih y7 (x10 + 1)
        · refine aw_goto 173 dX12_turns_147 (by decide) ?_
          refine aw_lload 2 dX12_turns_173 rfl ?_
          refine aw_aload_n 0 dX12_turns_175 rfl rfl ?_
          refine aw_getf (fg_12_37 (by decide)) ci_12 (by decide) w_1495 dX12_turns_176 ?_
          refine aw_iload 3 dX12_turns_179 rfl ?_
          refine aw_laload (ar_12_9 (by decide)) dX12_turns_181 (fun v_21 => ?_)
          refine aw_aload_n 0 dX12_turns_182 rfl rfl ?_
          refine aw_getf (fg_12_38 (by decide)) ci_12 (by decide) w_1496 dX12_turns_183 ?_
          refine aw_iload 4 dX12_turns_186 rfl ?_
          refine aw_laload (ar_12_10 (by decide)) dX12_turns_188 (fun v_22 => ?_)
          refine aw_lmul dX12_turns_189 ?_
          refine aw_ladd dX12_turns_190 ?_
          refine aw_bnd_long (fun v_23 => ?_)
          refine aw_lstore (ls' := [(0, .ref (ad 12 0 0)), (6, .int x6), (7, .long v_23), (9, .int x9), (10, .int x10)]) [1, 2, 0, 3, 4] dX12_turns_191 (by decide) rfl ?_
          refine aw_iinc (ls' := [(0, .ref (ad 12 0 0)), (6, .int x6), (7, .long v_23), (9, .int x9), (10, .int (x10 + 1))]) (x10 + 1) 4 [1, 2, 3, 4, 0] dX12_turns_193 rfl (by rfl) (by decide) rfl ?_
          refine aw_goto 128 dX12_turns_196 (by decide) ?_
          exact ih v_23 (x10 + 1)
def F12_turns_L118 (σ : Mem) (x6 : Int32) : Nat → Int64 → Int32 → Option (Int64)
  | 0 => fun _ _ => none
  | n + 1 => fun y7 x9 =>
    if 101 ≤ x9 then (some y7) else ((F12_turns_L128 σ x6 x9 fuelK y7 0).bind fun r_24 => (F12_turns_L118 σ x6 n) r_24 (x9 + 1))
set_option maxRecDepth 20000 in
theorem c12_turns_L118 {l : Launch} {D : va_G} {ad : Nat → Nat → Nat → Nat} {cid : Nat → Nat → Nat → ClassId} {α : Type} {emb : α → Option Value} (σ : Mem) (x6 : Int32) {G : Int64 → Option (α × Mem)} (kx : ∀ r, AW (XM l D ad cid) M12_turns 6 emb [(0, .ref (ad 12 0 0)), (7, .long r)] 205 [] σ (G r)) : ∀ (n : Nat) (y7 : Int64) (x9 : Int32), AW (XM l D ad cid) M12_turns 6 emb [(0, .ref (ad 12 0 0)), (6, .int x6), (7, .long y7), (9, .int x9)] 118 [] σ ((F12_turns_L118 σ x6 n y7 x9).bind G) := by
  intro n
  induction n with
  | zero => intros; exact aw_none
  | succ n ih =>
    intro y7 x9
    rw [F12_turns_L118.eq_2]
    refine aw_iload 3 dX12_turns_118 rfl ?_
    refine aw_bipush 101 dX12_turns_120 (by decide) ?_
    refine aw_icmp_ge 205 dX12_turns_122 (by decide) ?_ ?_
    · refine aw_ls (ls' := [(0, .ref (ad 12 0 0)), (7, .long y7)]) [0, 2] rfl ?_
      exact kx y7
    · refine aw_iconst 0 dX12_turns_125 (by decide) ?_
      refine aw_istore (ls' := [(0, .ref (ad 12 0 0)), (6, .int x6), (7, .long y7), (9, .int x9), (10, .int 0)]) [1, 2, 3, 4, 0] dX12_turns_126 (by decide) rfl ?_
      refine aw_assoc ?_
      refine c12_turns_L128 σ x6 x9 (fun r_24 => ?_) fuelK y7 0
      refine aw_iinc (ls' := [(0, .ref (ad 12 0 0)), (6, .int x6), (7, .long r_24), (9, .int (x9 + 1))]) (x9 + 1) 3 [1, 2, 3, 0] dX12_turns_199 rfl (by rfl) (by decide) rfl ?_
      refine aw_goto 118 dX12_turns_202 (by decide) ?_
      exact ih r_24 (x9 + 1)
def F12_turns (σ : Mem) (x1 : Int32) (x2 : Int32) (x3 : Int32) (x4 : Int32) (x5 : Int32) (x6 : Int32) : Option (Bool × Mem) :=
  bnd (sI σ 12 0 0 1 0) fun s_1 => bnd (sI s_1 12 0 0 0 0) fun s_2 => (F12_isShot s_2 x1 x2).bind fun v_3 => if v_3 = true then ((F12_isShot s_2 x3 x4).bind fun v_6 => if v_6 = true then (if (F12_isIn (Int32.toInt64 x5) 1 5) = true then (if (F12_isIn (Int32.toInt64 x6) 0 2) = true then (bd (F12_sumUp s_2 x1 x2 x5 12 0 9 101) fun _ s_9 => (F12_waysOf s_9 x5).bind fun v_10 => bnd (sL s_9 12 0 0 40 v_10) fun s_11 => bd (F12_sumUp s_11 x3 x4 x5 12 0 10 101) fun _ s_12 => (F12_waysOf s_12 x5).bind fun v_13 => bnd (sL s_12 12 0 0 41 v_13) fun s_14 => (F12_turns_L118 s_14 x6 fuelK 0 0).bind fun r_25 => bd (F12_fraction s_14 r_25 ((gL s_14 12 0 0 40) * (gL s_14 12 0 0 41))) fun v_26 s_27 => some (v_26, s_27)) else (bd (F12_no s_2 5) fun v_28 s_29 => some (v_28, s_29))) else (bd (F12_no s_2 5) fun v_7 s_8 => some (v_7, s_8))) else (bd (F12_no s_2 2) fun v_30 s_31 => some (v_30, s_31))) else (bd (F12_no s_2 2) fun v_4 s_5 => some (v_4, s_5))
set_option maxRecDepth 20000 in
theorem c12_turns {l : Launch} {D : va_G} {ad : Nat → Nat → Nat → Nat} {cid : Nat → Nat → Nat → ClassId} (σ : Mem) (x1 : Int32) (x2 : Int32) (x3 : Int32) (x4 : Int32) (x5 : Int32) (x6 : Int32) : AMF (XM l D ad cid) M12_turns 6 eB [.ref (ad 12 0 0), .int x1, .int x2, .int x3, .int x4, .int x5, .int x6] σ (F12_turns σ x1 x2 x3 x4 x5 x6) := by
  refine AM.ofW (by decide +kernel) (Nat.le_of_ble_eq_true rfl) (ls := [(0, .ref (ad 12 0 0)), (1, .int x1), (2, .int x2), (3, .int x3), (4, .int x4), (5, .int x5), (6, .int x6)]) rfl ?_
  refine aw_entry ?_
  unfold F12_turns
  refine aw_aload_n 0 dX12_turns_0 rfl rfl ?_
  refine aw_iconst 0 dX12_turns_1 (by decide) ?_
  refine aw_putI (fs_12_1 (by decide)) ci_12 (by decide) rfl rfl w_1459 dX12_turns_2 ?_
  refine aw_bndM (fun s_1 => ?_)
  refine aw_aload_n 0 dX12_turns_5 rfl rfl ?_
  refine aw_iconst 0 dX12_turns_6 (by decide) ?_
  refine aw_putI (fs_12_0 (by decide)) ci_12 (by decide) rfl rfl w_1458 dX12_turns_7 ?_
  refine aw_bndM (fun s_2 => ?_)
  refine aw_aload_n 0 dX12_turns_10 rfl rfl ?_
  refine aw_iload_n 1 dX12_turns_11 rfl rfl ?_
  refine aw_iload_n 2 dX12_turns_12 rfl rfl ?_
  refine aw_callVO_B (c12_isShot s_2 x1 x2) (io_12 (by decide)) ci_12 (by decide) mk_12_isShot w_2044 w_115 w_2042 rfl rfl (Nat.le_of_ble_eq_true rfl) dX12_turns_13 (fun v_3 => ?_)
  refine aw_bif_eq 29 dX12_turns_16 (by decide) ?_ ?_
  · refine aw_aload_n 0 dX12_turns_29 rfl rfl ?_
    refine aw_iconst 2 dX12_turns_30 (by decide) ?_
    refine aw_callVW_B (c12_no s_2 2) (io_12 (by decide)) ci_12 (by decide) mk_12_no w_1660 w_49 w_1658 rfl rfl (Nat.le_of_ble_eq_true rfl) dX12_turns_31 (fun v_4 s_5 => ?_)
    exact aw_zreturn (b := v_4) rfl rfl dX12_turns_34
  · refine aw_aload_n 0 dX12_turns_19 rfl rfl ?_
    refine aw_iload_n 3 dX12_turns_20 rfl rfl ?_
    refine aw_iload 4 dX12_turns_21 rfl ?_
    refine aw_callVO_B (c12_isShot s_2 x3 x4) (io_12 (by decide)) ci_12 (by decide) mk_12_isShot w_2044 w_115 w_2042 rfl rfl (Nat.le_of_ble_eq_true rfl) dX12_turns_23 (fun v_6 => ?_)
    refine aw_bif_ne 35 dX12_turns_26 (by decide) ?_ ?_
    · refine aw_iload 5 dX12_turns_35 rfl ?_
      refine aw_i2l dX12_turns_37 ?_
      refine aw_lconst 1 dX12_turns_38 (by decide) ?_
      refine aw_ldc2 w_2106 dX12_turns_39 ?_
      refine aw_callST_B (c12_isIn s_2 (Int32.toInt64 x5) 1 5) (by decide) mk_12_isIn w_1754 w_1753 rfl rfl (Nat.le_of_ble_eq_true rfl) dX12_turns_42 ?_
      refine aw_bif_eq 61 dX12_turns_45 (by decide) ?_ ?_
      · refine aw_aload_n 0 dX12_turns_61 rfl rfl ?_
        refine aw_iconst 5 dX12_turns_62 (by decide) ?_
        refine aw_callVW_B (c12_no s_2 5) (io_12 (by decide)) ci_12 (by decide) mk_12_no w_1660 w_49 w_1658 rfl rfl (Nat.le_of_ble_eq_true rfl) dX12_turns_63 (fun v_7 s_8 => ?_)
        exact aw_zreturn (b := v_7) rfl rfl dX12_turns_66
      · refine aw_iload 6 dX12_turns_48 rfl ?_
        refine aw_i2l dX12_turns_50 ?_
        refine aw_lconst 0 dX12_turns_51 (by decide) ?_
        refine aw_ldc2 w_2107 dX12_turns_52 ?_
        refine aw_callST_B (c12_isIn s_2 (Int32.toInt64 x6) 0 2) (by decide) mk_12_isIn w_1754 w_1753 rfl rfl (Nat.le_of_ble_eq_true rfl) dX12_turns_55 ?_
        refine aw_bif_ne 67 dX12_turns_58 (by decide) ?_ ?_
        · refine aw_aload_n 0 dX12_turns_67 rfl rfl ?_
          refine aw_iload_n 1 dX12_turns_68 rfl rfl ?_
          refine aw_iload_n 2 dX12_turns_69 rfl rfl ?_
          refine aw_iload 5 dX12_turns_70 rfl ?_
          refine aw_aload_n 0 dX12_turns_72 rfl rfl ?_
          refine aw_getf (fg_12_37 (by decide)) ci_12 (by decide) w_1495 dX12_turns_73 ?_
          refine aw_callVW_U (c12_sumUp s_2 x1 x2 x5 12 0 9 101 (ar_12_9 (by decide))) (io_12 (by decide)) ci_12 (by decide) mk_12_sumUp w_2110 w_121 w_2108 rfl rfl (Nat.le_of_ble_eq_true rfl) dX12_turns_76 (fun _ s_9 => ?_)
          refine aw_aload_n 0 dX12_turns_79 rfl rfl ?_
          refine aw_aload_n 0 dX12_turns_80 rfl rfl ?_
          refine aw_iload 5 dX12_turns_81 rfl ?_
          refine aw_callVO_L (c12_waysOf s_9 x5) (io_12 (by decide)) ci_12 (by decide) mk_12_waysOf w_2114 w_122 w_2112 rfl rfl (Nat.le_of_ble_eq_true rfl) dX12_turns_83 (fun v_10 => ?_)
          refine aw_putL (fs_12_40 (by decide)) ci_12 (by decide) rfl rfl w_1498 dX12_turns_86 ?_
          refine aw_bndM (fun s_11 => ?_)
          refine aw_aload_n 0 dX12_turns_89 rfl rfl ?_
          refine aw_iload_n 3 dX12_turns_90 rfl rfl ?_
          refine aw_iload 4 dX12_turns_91 rfl ?_
          refine aw_iload 5 dX12_turns_93 rfl ?_
          refine aw_aload_n 0 dX12_turns_95 rfl rfl ?_
          refine aw_getf (fg_12_38 (by decide)) ci_12 (by decide) w_1496 dX12_turns_96 ?_
          refine aw_callVW_U (c12_sumUp s_11 x3 x4 x5 12 0 10 101 (ar_12_10 (by decide))) (io_12 (by decide)) ci_12 (by decide) mk_12_sumUp w_2110 w_121 w_2108 rfl rfl (Nat.le_of_ble_eq_true rfl) dX12_turns_99 (fun _ s_12 => ?_)
          refine aw_aload_n 0 dX12_turns_102 rfl rfl ?_
          refine aw_aload_n 0 dX12_turns_103 rfl rfl ?_
          refine aw_iload 5 dX12_turns_104 rfl ?_
          refine aw_callVO_L (c12_waysOf s_12 x5) (io_12 (by decide)) ci_12 (by decide) mk_12_waysOf w_2114 w_122 w_2112 rfl rfl (Nat.le_of_ble_eq_true rfl) dX12_turns_106 (fun v_13 => ?_)
          refine aw_putL (fs_12_41 (by decide)) ci_12 (by decide) rfl rfl w_1499 dX12_turns_109 ?_
          refine aw_bndM (fun s_14 => ?_)
          refine aw_lconst 0 dX12_turns_112 (by decide) ?_
          refine aw_lstore (ls' := [(0, .ref (ad 12 0 0)), (6, .int x6), (7, .long 0)]) [1, 7, 0] dX12_turns_113 (by decide) rfl ?_
          refine aw_iconst 0 dX12_turns_115 (by decide) ?_
          refine aw_istore (ls' := [(0, .ref (ad 12 0 0)), (6, .int x6), (7, .long 0), (9, .int 0)]) [1, 2, 3, 0] dX12_turns_116 (by decide) rfl ?_
          refine aw_assoc ?_
          refine c12_turns_L118 s_14 x6 (fun r_25 => ?_) fuelK 0 0
          refine aw_aload_n 0 dX12_turns_205 rfl rfl ?_
          refine aw_lload 1 dX12_turns_206 rfl ?_
          refine aw_aload_n 0 dX12_turns_208 rfl rfl ?_
          refine aw_getf (fg_12_40 (by decide)) ci_12 (by decide) w_1498 dX12_turns_209 ?_
          refine aw_aload_n 0 dX12_turns_212 rfl rfl ?_
          refine aw_getf (fg_12_41 (by decide)) ci_12 (by decide) w_1499 dX12_turns_213 ?_
          refine aw_lmul dX12_turns_216 ?_
          refine aw_callVW_B (c12_fraction s_14 r_25 ((gL s_14 12 0 0 40) * (gL s_14 12 0 0 41))) (io_12 (by decide)) ci_12 (by decide) mk_12_fraction w_2052 w_117 w_2050 rfl rfl (Nat.le_of_ble_eq_true rfl) dX12_turns_217 (fun v_26 s_27 => ?_)
          exact aw_zreturn (b := v_26) rfl rfl dX12_turns_220
        · refine aw_aload_n 0 dX12_turns_61 rfl rfl ?_
          refine aw_iconst 5 dX12_turns_62 (by decide) ?_
          refine aw_callVW_B (c12_no s_2 5) (io_12 (by decide)) ci_12 (by decide) mk_12_no w_1660 w_49 w_1658 rfl rfl (Nat.le_of_ble_eq_true rfl) dX12_turns_63 (fun v_28 s_29 => ?_)
          exact aw_zreturn (b := v_28) rfl rfl dX12_turns_66
    · refine aw_aload_n 0 dX12_turns_29 rfl rfl ?_
      refine aw_iconst 2 dX12_turns_30 (by decide) ?_
      refine aw_callVW_B (c12_no s_2 2) (io_12 (by decide)) ci_12 (by decide) mk_12_no w_1660 w_49 w_1658 rfl rfl (Nat.le_of_ble_eq_true rfl) dX12_turns_31 (fun v_30 s_31 => ?_)
      exact aw_zreturn (b := v_30) rfl rfl dX12_turns_34
def F12_isTray (x1 : Int32) : Bool :=
  (F12_isIn (Int32.toInt64 x1) 0 3)
set_option maxRecDepth 20000 in
theorem c12_isTray {l : Launch} {D : va_G} {ad : Nat → Nat → Nat → Nat} {cid : Nat → Nat → Nat → ClassId} (σ : Mem) (x1 : Int32) : AMF (XM l D ad cid) M12_isTray 1 eB [.ref (ad 12 0 0), .int x1] σ (some (F12_isTray x1, σ)) := by
  refine AM.ofW (by decide +kernel) (Nat.le_of_ble_eq_true rfl) (ls := [(0, .ref (ad 12 0 0)), (1, .int x1)]) rfl ?_
  refine aw_entryT ?_
  unfold F12_isTray
  refine aw_iload_n 1 dX12_isTray_0 rfl rfl ?_
  refine aw_i2l dX12_isTray_1 ?_
  refine aw_lconst 0 dX12_isTray_2 (by decide) ?_
  refine aw_ldc2 w_1981 dX12_isTray_3 ?_
  refine aw_callST_B (c12_isIn σ (Int32.toInt64 x1) 0 3) (by decide) mk_12_isIn w_1754 w_1753 rfl rfl (Nat.le_of_ble_eq_true rfl) dX12_isTray_6 ?_
  exact aw_zreturn (b := (F12_isIn (Int32.toInt64 x1) 0 3)) rfl rfl dX12_isTray_9
def F12_numberOf (σ : Mem) (x1 : Int32) (x2 : Int32) : Option Int64 :=
  (ald 240 (gL σ 12 0 3) ((60 * x1) + x2)).bind fun v_1 => some v_1
set_option maxRecDepth 20000 in
theorem c12_numberOf {l : Launch} {D : va_G} {ad : Nat → Nat → Nat → Nat} {cid : Nat → Nat → Nat → ClassId} (σ : Mem) (x1 : Int32) (x2 : Int32) : AMF (XM l D ad cid) M12_numberOf 0 eL [.ref (ad 12 0 0), .int x1, .int x2] σ (oM σ (F12_numberOf σ x1 x2)) := by
  refine AM.ofW (by decide +kernel) (Nat.le_of_ble_eq_true rfl) (ls := [(0, .ref (ad 12 0 0)), (1, .int x1), (2, .int x2)]) rfl ?_
  refine aw_entryO ?_
  unfold F12_numberOf
  refine aw_aload_n 0 dX12_numberOf_0 rfl rfl ?_
  refine aw_getf (fg_12_6 (by decide)) ci_12 (by decide) w_1464 dX12_numberOf_1 ?_
  refine aw_bipush 60 dX12_numberOf_4 (by decide) ?_
  refine aw_iload_n 1 dX12_numberOf_6 rfl rfl ?_
  refine aw_imul dX12_numberOf_7 ?_
  refine aw_iload_n 2 dX12_numberOf_8 rfl rfl ?_
  refine aw_iadd dX12_numberOf_9 ?_
  refine aw_laload (ar_12_3 (by decide)) dX12_numberOf_10 (fun v_1 => ?_)
  exact aw_lreturn rfl dX12_numberOf_11
def F12_beats_L38 (σ : Mem) (x6 : Int32) : Nat → Int64 → Int32 → Option (Int64)
  | 0 => fun _ _ => none
  | n + 1 => fun y4 x7 =>
    if x6 ≤ x7 then (some y4) else ((ald 101 (gL σ 12 0 9) x6).bind fun v_3 => (ald 101 (gL σ 12 0 10) x7).bind fun v_4 => bnd (y4 + (v_3 * v_4)) fun v_5 => (F12_beats_L38 σ x6 n) v_5 (x7 + 1))
set_option maxRecDepth 20000 in
theorem c12_beats_L38 {l : Launch} {D : va_G} {ad : Nat → Nat → Nat → Nat} {cid : Nat → Nat → Nat → ClassId} {α : Type} {emb : α → Option Value} (σ : Mem) (x6 : Int32) {G : Int64 → Option (α × Mem)} (kx : ∀ r, AW (XM l D ad cid) M12_beats 6 emb [(0, .ref (ad 12 0 0)), (4, .long r), (6, .int x6)] 71 [] σ (G r)) : ∀ (n : Nat) (y4 : Int64) (x7 : Int32), AW (XM l D ad cid) M12_beats 6 emb [(0, .ref (ad 12 0 0)), (4, .long y4), (6, .int x6), (7, .int x7)] 38 [] σ ((F12_beats_L38 σ x6 n y4 x7).bind G) := by
  intro n
  induction n with
  | zero => intros; exact aw_none
  | succ n ih =>
    intro y4 x7
    rw [F12_beats_L38.eq_2]
    refine aw_iload 3 dX12_beats_38 rfl ?_
    refine aw_iload 2 dX12_beats_40 rfl ?_
    refine aw_icmp_ge 71 dX12_beats_42 (by decide) ?_ ?_
    · refine aw_ls (ls' := [(0, .ref (ad 12 0 0)), (4, .long y4), (6, .int x6)]) [0, 1, 2] rfl ?_
      exact kx y4
    · refine aw_lload 1 dX12_beats_45 rfl ?_
      refine aw_aload_n 0 dX12_beats_47 rfl rfl ?_
      refine aw_getf (fg_12_37 (by decide)) ci_12 (by decide) w_1495 dX12_beats_48 ?_
      refine aw_iload 2 dX12_beats_51 rfl ?_
      refine aw_laload (ar_12_9 (by decide)) dX12_beats_53 (fun v_3 => ?_)
      refine aw_aload_n 0 dX12_beats_54 rfl rfl ?_
      refine aw_getf (fg_12_38 (by decide)) ci_12 (by decide) w_1496 dX12_beats_55 ?_
      refine aw_iload 3 dX12_beats_58 rfl ?_
      refine aw_laload (ar_12_10 (by decide)) dX12_beats_60 (fun v_4 => ?_)
      refine aw_lmul dX12_beats_61 ?_
      refine aw_ladd dX12_beats_62 ?_
      refine aw_bnd_long (fun v_5 => ?_)
      refine aw_lstore (ls' := [(0, .ref (ad 12 0 0)), (4, .long v_5), (6, .int x6), (7, .int x7)]) [1, 0, 2, 3] dX12_beats_63 (by decide) rfl ?_
      refine aw_iinc (ls' := [(0, .ref (ad 12 0 0)), (4, .long v_5), (6, .int x6), (7, .int (x7 + 1))]) (x7 + 1) 3 [1, 2, 3, 0] dX12_beats_65 rfl (by rfl) (by decide) rfl ?_
      refine aw_goto 38 dX12_beats_68 (by decide) ?_
      exact ih v_5 (x7 + 1)
def F12_beats_L28 (σ : Mem)  : Nat → Int64 → Int32 → Option (Int64)
  | 0 => fun _ _ => none
  | n + 1 => fun y4 x6 =>
    if 101 ≤ x6 then (some y4) else ((F12_beats_L38 σ x6 fuelK y4 0).bind fun r_6 => (F12_beats_L28 σ n) r_6 (x6 + 1))
set_option maxRecDepth 20000 in
theorem c12_beats_L28 {l : Launch} {D : va_G} {ad : Nat → Nat → Nat → Nat} {cid : Nat → Nat → Nat → ClassId} {α : Type} {emb : α → Option Value} (σ : Mem)  {G : Int64 → Option (α × Mem)} (kx : ∀ r, AW (XM l D ad cid) M12_beats 6 emb [(4, .long r)] 77 [] σ (G r)) : ∀ (n : Nat) (y4 : Int64) (x6 : Int32), AW (XM l D ad cid) M12_beats 6 emb [(0, .ref (ad 12 0 0)), (4, .long y4), (6, .int x6)] 28 [] σ ((F12_beats_L28 σ  n y4 x6).bind G) := by
  intro n
  induction n with
  | zero => intros; exact aw_none
  | succ n ih =>
    intro y4 x6
    rw [F12_beats_L28.eq_2]
    refine aw_iload 2 dX12_beats_28 rfl ?_
    refine aw_bipush 101 dX12_beats_30 (by decide) ?_
    refine aw_icmp_ge 77 dX12_beats_32 (by decide) ?_ ?_
    · refine aw_ls (ls' := [(4, .long y4)]) [1] rfl ?_
      exact kx y4
    · refine aw_iconst 0 dX12_beats_35 (by decide) ?_
      refine aw_istore (ls' := [(0, .ref (ad 12 0 0)), (4, .long y4), (6, .int x6), (7, .int 0)]) [1, 2, 3, 0] dX12_beats_36 (by decide) rfl ?_
      refine aw_assoc ?_
      refine c12_beats_L38 σ x6 (fun r_6 => ?_) fuelK y4 0
      refine aw_iinc (ls' := [(0, .ref (ad 12 0 0)), (4, .long r_6), (6, .int (x6 + 1))]) (x6 + 1) 2 [1, 2, 0] dX12_beats_71 rfl (by rfl) (by decide) rfl ?_
      refine aw_goto 28 dX12_beats_74 (by decide) ?_
      exact ih r_6 (x6 + 1)
def F12_beats (σ : Mem) (x1 : Int32) (x2 : Int32) (x3 : Int32) : Option (Int64 × Mem) :=
  bd (F12_sumUp σ x1 x3 1 12 0 9 101) fun _ s_1 => bd (F12_sumUp s_1 x2 x3 1 12 0 10 101) fun _ s_2 => (F12_beats_L28 s_2  fuelK 0 0).bind fun r_7 => some (r_7, s_2)
set_option maxRecDepth 20000 in
theorem c12_beats {l : Launch} {D : va_G} {ad : Nat → Nat → Nat → Nat} {cid : Nat → Nat → Nat → ClassId} (σ : Mem) (x1 : Int32) (x2 : Int32) (x3 : Int32) : AMF (XM l D ad cid) M12_beats 6 eL [.ref (ad 12 0 0), .int x1, .int x2, .int x3] σ (F12_beats σ x1 x2 x3) := by
  refine AM.ofW (by decide +kernel) (Nat.le_of_ble_eq_true rfl) (ls := [(0, .ref (ad 12 0 0)), (1, .int x1), (2, .int x2), (3, .int x3)]) rfl ?_
  refine aw_entry ?_
  unfold F12_beats
  refine aw_aload_n 0 dX12_beats_0 rfl rfl ?_
  refine aw_iload_n 1 dX12_beats_1 rfl rfl ?_
  refine aw_iload_n 3 dX12_beats_2 rfl rfl ?_
  refine aw_iconst 1 dX12_beats_3 (by decide) ?_
  refine aw_aload_n 0 dX12_beats_4 rfl rfl ?_
  refine aw_getf (fg_12_37 (by decide)) ci_12 (by decide) w_1495 dX12_beats_5 ?_
  refine aw_callVW_U (c12_sumUp σ x1 x3 1 12 0 9 101 (ar_12_9 (by decide))) (io_12 (by decide)) ci_12 (by decide) mk_12_sumUp w_2110 w_121 w_2108 rfl rfl (Nat.le_of_ble_eq_true rfl) dX12_beats_8 (fun _ s_1 => ?_)
  refine aw_aload_n 0 dX12_beats_11 rfl rfl ?_
  refine aw_iload_n 2 dX12_beats_12 rfl rfl ?_
  refine aw_iload_n 3 dX12_beats_13 rfl rfl ?_
  refine aw_iconst 1 dX12_beats_14 (by decide) ?_
  refine aw_aload_n 0 dX12_beats_15 rfl rfl ?_
  refine aw_getf (fg_12_38 (by decide)) ci_12 (by decide) w_1496 dX12_beats_16 ?_
  refine aw_callVW_U (c12_sumUp s_1 x2 x3 1 12 0 10 101 (ar_12_10 (by decide))) (io_12 (by decide)) ci_12 (by decide) mk_12_sumUp w_2110 w_121 w_2108 rfl rfl (Nat.le_of_ble_eq_true rfl) dX12_beats_19 (fun _ s_2 => ?_)
  refine aw_lconst 0 dX12_beats_22 (by decide) ?_
  refine aw_lstore (ls' := [(0, .ref (ad 12 0 0)), (4, .long 0)]) [1, 0] dX12_beats_23 (by decide) rfl ?_
  refine aw_iconst 0 dX12_beats_25 (by decide) ?_
  refine aw_istore (ls' := [(0, .ref (ad 12 0 0)), (4, .long 0), (6, .int 0)]) [1, 2, 0] dX12_beats_26 (by decide) rfl ?_
  refine aw_assoc ?_
  refine c12_beats_L28 s_2  (fun r_7 => ?_) fuelK 0 0
  refine aw_lload 0 dX12_beats_77 rfl ?_
  exact aw_lreturn rfl dX12_beats_79
def F12_decides (σ : Mem) (x1 : Int32) (x2 : Int32) (x3 : Int32) : Option (Int64 × Mem) :=
  bd (F12_beats σ x1 x2 x3) fun v_1 s_2 => bd (F12_beats s_2 x2 x1 x3) fun v_3 s_4 => some ((v_1 + v_3), s_4)
set_option maxRecDepth 20000 in
theorem c12_decides {l : Launch} {D : va_G} {ad : Nat → Nat → Nat → Nat} {cid : Nat → Nat → Nat → ClassId} (σ : Mem) (x1 : Int32) (x2 : Int32) (x3 : Int32) : AMF (XM l D ad cid) M12_decides 7 eL [.ref (ad 12 0 0), .int x1, .int x2, .int x3] σ (F12_decides σ x1 x2 x3) := by
  refine AM.ofW (by decide +kernel) (Nat.le_of_ble_eq_true rfl) (ls := [(0, .ref (ad 12 0 0)), (1, .int x1), (2, .int x2), (3, .int x3)]) rfl ?_
  refine aw_entry ?_
  unfold F12_decides
  refine aw_aload_n 0 dX12_decides_0 rfl rfl ?_
  refine aw_iload_n 1 dX12_decides_1 rfl rfl ?_
  refine aw_iload_n 2 dX12_decides_2 rfl rfl ?_
  refine aw_iload_n 3 dX12_decides_3 rfl rfl ?_
  refine aw_callVW_L (c12_beats σ x1 x2 x3) (io_12 (by decide)) ci_12 (by decide) mk_12_beats w_2134 w_126 w_2132 rfl rfl (Nat.le_of_ble_eq_true rfl) dX12_decides_4 (fun v_1 s_2 => ?_)
  refine aw_aload_n 0 dX12_decides_7 rfl rfl ?_
  refine aw_iload_n 2 dX12_decides_8 rfl rfl ?_
  refine aw_iload_n 1 dX12_decides_9 rfl rfl ?_
  refine aw_iload_n 3 dX12_decides_10 rfl rfl ?_
  refine aw_callVW_L (c12_beats s_2 x2 x1 x3) (io_12 (by decide)) ci_12 (by decide) mk_12_beats w_2134 w_126 w_2132 rfl rfl (Nat.le_of_ble_eq_true rfl) dX12_decides_11 (fun v_3 s_4 => ?_)
  refine aw_ladd dX12_decides_14 ?_
  exact aw_lreturn rfl dX12_decides_15
def F12_knock_p182 (σ : Mem) (x2 : Int32) (x4 : Int32) (x5 : Int32) (x6 : Int32) (q1 : Int32) (q2 : Int32) : Option (Bool × Mem) :=
  (F12_numberOf σ q1 q2).bind fun v_12 => bnd (Int64.toInt32 v_12) fun v_13 => bd (F12_decides σ x4 x5 x2) fun v_14 s_15 => bd (F12_decides s_15 x6 v_13 x2) fun v_16 s_17 => bd (F12_decides s_17 x4 x6 x2) fun v_18 s_19 => bd (F12_decides s_19 x4 v_13 x2) fun v_20 s_21 => if v_14 = 0 then (bd (F12_no s_21 9) fun v_22 s_23 => some (v_22, s_23)) else (if v_16 = 0 then (bd (F12_no s_21 9) fun v_24 s_25 => some (v_24, s_25)) else (if v_18 = 0 then (bd (F12_no s_21 9) fun v_26 s_27 => some (v_26, s_27)) else (if v_20 = 0 then (bd (F12_no s_21 9) fun v_41 s_42 => some (v_41, s_42)) else (bd (F12_beats s_21 x4 x5 x2) fun v_28 s_29 => bd (F12_beats s_29 x6 v_13 x2) fun v_30 s_31 => bd (F12_beats s_31 x4 x6 x2) fun v_32 s_33 => bd (F12_beats s_33 v_13 x6 x2) fun v_34 s_35 => bd (F12_beats s_35 x4 v_13 x2) fun v_36 s_37 => bnd (v_28 * (((v_30 * v_32) * v_20) + ((v_34 * v_36) * v_18))) fun v_38 => bd (F12_fraction s_37 v_38 (((v_14 * v_16) * v_18) * v_20)) fun v_39 s_40 => some (v_39, s_40)))))
set_option maxRecDepth 20000 in
theorem c12_knock_p182 {l : Launch} {D : va_G} {ad : Nat → Nat → Nat → Nat} {cid : Nat → Nat → Nat → ClassId} (σ : Mem) (x2 : Int32) (x4 : Int32) (x5 : Int32) (x6 : Int32) (q1 : Int32) (q2 : Int32) : AW (XM l D ad cid) M12_knock 8 eB [(0, .ref (ad 12 0 0)), (2, .int x2), (4, .int x4), (5, .int x5), (6, .int x6)] 182 [.int q2, .int q1, .ref (ad 12 0 0)] σ ((F12_knock_p182 σ x2 x4 x5 x6 q1 q2).bind some) := by
  unfold F12_knock_p182
  refine aw_callVO_L (c12_numberOf σ q1 q2) (io_12 (by decide)) ci_12 (by decide) mk_12_numberOf w_2126 w_124 w_2124 rfl rfl (Nat.le_of_ble_eq_true rfl) dX12_knock_182 (fun v_12 => ?_)
  refine aw_l2i dX12_knock_185 ?_
  refine aw_bnd_int (fun v_13 => ?_)
  refine aw_istore (ls' := [(0, .ref (ad 12 0 0)), (2, .int x2), (4, .int x4), (5, .int x5), (6, .int x6), (7, .int v_13)]) [1, 2, 3, 4, 5, 0] dX12_knock_186 (by decide) rfl ?_
  refine aw_aload_n 0 dX12_knock_188 rfl rfl ?_
  refine aw_iload 2 dX12_knock_189 rfl ?_
  refine aw_iload 3 dX12_knock_191 rfl ?_
  refine aw_iload_n 1 dX12_knock_193 rfl rfl ?_
  refine aw_callVW_L (c12_decides σ x4 x5 x2) (io_12 (by decide)) ci_12 (by decide) mk_12_decides w_2130 w_125 w_2128 rfl rfl (Nat.le_of_ble_eq_true rfl) dX12_knock_194 (fun v_14 s_15 => ?_)
  refine aw_lstore (ls' := [(0, .ref (ad 12 0 0)), (2, .int x2), (4, .int x4), (5, .int x5), (6, .int x6), (7, .int v_13), (8, .long v_14)]) [1, 2, 3, 4, 5, 6, 0] dX12_knock_197 (by decide) rfl ?_
  refine aw_aload_n 0 dX12_knock_199 rfl rfl ?_
  refine aw_iload 4 dX12_knock_200 rfl ?_
  refine aw_iload 5 dX12_knock_202 rfl ?_
  refine aw_iload_n 1 dX12_knock_204 rfl rfl ?_
  refine aw_callVW_L (c12_decides s_15 x6 v_13 x2) (io_12 (by decide)) ci_12 (by decide) mk_12_decides w_2130 w_125 w_2128 rfl rfl (Nat.le_of_ble_eq_true rfl) dX12_knock_205 (fun v_16 s_17 => ?_)
  refine aw_lstore (ls' := [(0, .ref (ad 12 0 0)), (2, .int x2), (4, .int x4), (5, .int x5), (6, .int x6), (7, .int v_13), (8, .long v_14), (10, .long v_16)]) [1, 2, 3, 4, 5, 6, 7, 0] dX12_knock_208 (by decide) rfl ?_
  refine aw_aload_n 0 dX12_knock_210 rfl rfl ?_
  refine aw_iload 2 dX12_knock_211 rfl ?_
  refine aw_iload 4 dX12_knock_213 rfl ?_
  refine aw_iload_n 1 dX12_knock_215 rfl rfl ?_
  refine aw_callVW_L (c12_decides s_17 x4 x6 x2) (io_12 (by decide)) ci_12 (by decide) mk_12_decides w_2130 w_125 w_2128 rfl rfl (Nat.le_of_ble_eq_true rfl) dX12_knock_216 (fun v_18 s_19 => ?_)
  refine aw_lstore (ls' := [(0, .ref (ad 12 0 0)), (2, .int x2), (4, .int x4), (5, .int x5), (6, .int x6), (7, .int v_13), (8, .long v_14), (10, .long v_16), (12, .long v_18)]) [1, 2, 3, 4, 5, 6, 7, 8, 0] dX12_knock_219 (by decide) rfl ?_
  refine aw_aload_n 0 dX12_knock_221 rfl rfl ?_
  refine aw_iload 2 dX12_knock_222 rfl ?_
  refine aw_iload 5 dX12_knock_224 rfl ?_
  refine aw_iload_n 1 dX12_knock_226 rfl rfl ?_
  refine aw_callVW_L (c12_decides s_19 x4 v_13 x2) (io_12 (by decide)) ci_12 (by decide) mk_12_decides w_2130 w_125 w_2128 rfl rfl (Nat.le_of_ble_eq_true rfl) dX12_knock_227 (fun v_20 s_21 => ?_)
  refine aw_lstore (ls' := [(0, .ref (ad 12 0 0)), (2, .int x2), (4, .int x4), (5, .int x5), (6, .int x6), (7, .int v_13), (8, .long v_14), (10, .long v_16), (12, .long v_18), (14, .long v_20)]) [1, 2, 3, 4, 5, 6, 7, 8, 9, 0] dX12_knock_230 (by decide) rfl ?_
  refine aw_lload 6 dX12_knock_232 rfl ?_
  refine aw_lconst 0 dX12_knock_234 (by decide) ?_
  refine aw_lcmp dX12_knock_235 ?_
  refine aw_lif_eq 260 dX12_knock_236 (by decide) ?_ ?_
  · refine aw_aload_n 0 dX12_knock_260 rfl rfl ?_
    refine aw_bipush 9 dX12_knock_261 (by decide) ?_
    refine aw_callVW_B (c12_no s_21 9) (io_12 (by decide)) ci_12 (by decide) mk_12_no w_1660 w_49 w_1658 rfl rfl (Nat.le_of_ble_eq_true rfl) dX12_knock_263 (fun v_22 s_23 => ?_)
    exact aw_zreturn (b := v_22) rfl rfl dX12_knock_266
  · refine aw_lload 7 dX12_knock_239 rfl ?_
    refine aw_lconst 0 dX12_knock_241 (by decide) ?_
    refine aw_lcmp dX12_knock_242 ?_
    refine aw_lif_eq 260 dX12_knock_243 (by decide) ?_ ?_
    · refine aw_aload_n 0 dX12_knock_260 rfl rfl ?_
      refine aw_bipush 9 dX12_knock_261 (by decide) ?_
      refine aw_callVW_B (c12_no s_21 9) (io_12 (by decide)) ci_12 (by decide) mk_12_no w_1660 w_49 w_1658 rfl rfl (Nat.le_of_ble_eq_true rfl) dX12_knock_263 (fun v_24 s_25 => ?_)
      exact aw_zreturn (b := v_24) rfl rfl dX12_knock_266
    · refine aw_lload 8 dX12_knock_246 rfl ?_
      refine aw_lconst 0 dX12_knock_248 (by decide) ?_
      refine aw_lcmp dX12_knock_249 ?_
      refine aw_lif_eq 260 dX12_knock_250 (by decide) ?_ ?_
      · refine aw_aload_n 0 dX12_knock_260 rfl rfl ?_
        refine aw_bipush 9 dX12_knock_261 (by decide) ?_
        refine aw_callVW_B (c12_no s_21 9) (io_12 (by decide)) ci_12 (by decide) mk_12_no w_1660 w_49 w_1658 rfl rfl (Nat.le_of_ble_eq_true rfl) dX12_knock_263 (fun v_26 s_27 => ?_)
        exact aw_zreturn (b := v_26) rfl rfl dX12_knock_266
      · refine aw_lload 9 dX12_knock_253 rfl ?_
        refine aw_lconst 0 dX12_knock_255 (by decide) ?_
        refine aw_lcmp dX12_knock_256 ?_
        refine aw_lif_ne 267 dX12_knock_257 (by decide) ?_ ?_
        · refine aw_aload_n 0 dX12_knock_267 rfl rfl ?_
          refine aw_iload 2 dX12_knock_268 rfl ?_
          refine aw_iload 3 dX12_knock_270 rfl ?_
          refine aw_iload_n 1 dX12_knock_272 rfl rfl ?_
          refine aw_callVW_L (c12_beats s_21 x4 x5 x2) (io_12 (by decide)) ci_12 (by decide) mk_12_beats w_2134 w_126 w_2132 rfl rfl (Nat.le_of_ble_eq_true rfl) dX12_knock_273 (fun v_28 s_29 => ?_)
          refine aw_aload_n 0 dX12_knock_276 rfl rfl ?_
          refine aw_iload 4 dX12_knock_277 rfl ?_
          refine aw_iload 5 dX12_knock_279 rfl ?_
          refine aw_iload_n 1 dX12_knock_281 rfl rfl ?_
          refine aw_callVW_L (c12_beats s_29 x6 v_13 x2) (io_12 (by decide)) ci_12 (by decide) mk_12_beats w_2134 w_126 w_2132 rfl rfl (Nat.le_of_ble_eq_true rfl) dX12_knock_282 (fun v_30 s_31 => ?_)
          refine aw_aload_n 0 dX12_knock_285 rfl rfl ?_
          refine aw_iload 2 dX12_knock_286 rfl ?_
          refine aw_iload 4 dX12_knock_288 rfl ?_
          refine aw_iload_n 1 dX12_knock_290 rfl rfl ?_
          refine aw_callVW_L (c12_beats s_31 x4 x6 x2) (io_12 (by decide)) ci_12 (by decide) mk_12_beats w_2134 w_126 w_2132 rfl rfl (Nat.le_of_ble_eq_true rfl) dX12_knock_291 (fun v_32 s_33 => ?_)
          refine aw_lmul dX12_knock_294 ?_
          refine aw_lload 9 dX12_knock_295 rfl ?_
          refine aw_lmul dX12_knock_297 ?_
          refine aw_aload_n 0 dX12_knock_298 rfl rfl ?_
          refine aw_iload 5 dX12_knock_299 rfl ?_
          refine aw_iload 4 dX12_knock_301 rfl ?_
          refine aw_iload_n 1 dX12_knock_303 rfl rfl ?_
          refine aw_callVW_L (c12_beats s_33 v_13 x6 x2) (io_12 (by decide)) ci_12 (by decide) mk_12_beats w_2134 w_126 w_2132 rfl rfl (Nat.le_of_ble_eq_true rfl) dX12_knock_304 (fun v_34 s_35 => ?_)
          refine aw_aload_n 0 dX12_knock_307 rfl rfl ?_
          refine aw_iload 2 dX12_knock_308 rfl ?_
          refine aw_iload 5 dX12_knock_310 rfl ?_
          refine aw_iload_n 1 dX12_knock_312 rfl rfl ?_
          refine aw_callVW_L (c12_beats s_35 x4 v_13 x2) (io_12 (by decide)) ci_12 (by decide) mk_12_beats w_2134 w_126 w_2132 rfl rfl (Nat.le_of_ble_eq_true rfl) dX12_knock_313 (fun v_36 s_37 => ?_)
          refine aw_lmul dX12_knock_316 ?_
          refine aw_lload 8 dX12_knock_317 rfl ?_
          refine aw_lmul dX12_knock_319 ?_
          refine aw_ladd dX12_knock_320 ?_
          refine aw_lmul dX12_knock_321 ?_
          refine aw_bnd_long (fun v_38 => ?_)
          refine aw_lstore (ls' := [(0, .ref (ad 12 0 0)), (8, .long v_14), (10, .long v_16), (12, .long v_18), (14, .long v_20), (16, .long v_38)]) [1, 7, 8, 9, 10, 0] dX12_knock_322 (by decide) rfl ?_
          refine aw_aload_n 0 dX12_knock_324 rfl rfl ?_
          refine aw_lload 5 dX12_knock_325 rfl ?_
          refine aw_lload 1 dX12_knock_327 rfl ?_
          refine aw_lload 2 dX12_knock_329 rfl ?_
          refine aw_lmul dX12_knock_331 ?_
          refine aw_lload 3 dX12_knock_332 rfl ?_
          refine aw_lmul dX12_knock_334 ?_
          refine aw_lload 4 dX12_knock_335 rfl ?_
          refine aw_lmul dX12_knock_337 ?_
          refine aw_callVW_B (c12_fraction s_37 v_38 (((v_14 * v_16) * v_18) * v_20)) (io_12 (by decide)) ci_12 (by decide) mk_12_fraction w_2052 w_117 w_2050 rfl rfl (Nat.le_of_ble_eq_true rfl) dX12_knock_338 (fun v_39 s_40 => ?_)
          exact aw_zreturn (b := v_39) rfl rfl dX12_knock_341
        · refine aw_aload_n 0 dX12_knock_260 rfl rfl ?_
          refine aw_bipush 9 dX12_knock_261 (by decide) ?_
          refine aw_callVW_B (c12_no s_21 9) (io_12 (by decide)) ci_12 (by decide) mk_12_no w_1660 w_49 w_1658 rfl rfl (Nat.le_of_ble_eq_true rfl) dX12_knock_263 (fun v_41 s_42 => ?_)
          exact aw_zreturn (b := v_41) rfl rfl dX12_knock_266
def F12_knock_p164 (σ : Mem) (x1 : Int32) (x2 : Int32) (x3 : Int32) (x4 : Int32) (x5 : Int32) (q1 : Int32) (q2 : Int32) : Option (Bool × Mem) :=
  (F12_numberOf σ q1 q2).bind fun v_10 => bnd (Int64.toInt32 v_10) fun v_11 => if 2 ≤ x3 then (F12_knock_p182 σ x2 x4 x5 v_11 x1 1) else (F12_knock_p182 σ x2 x4 x5 v_11 x1 3)
set_option maxRecDepth 20000 in
theorem c12_knock_p164 {l : Launch} {D : va_G} {ad : Nat → Nat → Nat → Nat} {cid : Nat → Nat → Nat → ClassId} (σ : Mem) (x1 : Int32) (x2 : Int32) (x3 : Int32) (x4 : Int32) (x5 : Int32) (q1 : Int32) (q2 : Int32) : AW (XM l D ad cid) M12_knock 8 eB [(0, .ref (ad 12 0 0)), (1, .int x1), (2, .int x2), (3, .int x3), (4, .int x4), (5, .int x5)] 164 [.int q2, .int q1, .ref (ad 12 0 0)] σ ((F12_knock_p164 σ x1 x2 x3 x4 x5 q1 q2).bind some) := by
  unfold F12_knock_p164
  refine aw_callVO_L (c12_numberOf σ q1 q2) (io_12 (by decide)) ci_12 (by decide) mk_12_numberOf w_2126 w_124 w_2124 rfl rfl (Nat.le_of_ble_eq_true rfl) dX12_knock_164 (fun v_10 => ?_)
  refine aw_l2i dX12_knock_167 ?_
  refine aw_bnd_int (fun v_11 => ?_)
  refine aw_istore (ls' := [(0, .ref (ad 12 0 0)), (1, .int x1), (2, .int x2), (3, .int x3), (4, .int x4), (5, .int x5), (6, .int v_11)]) [1, 2, 3, 4, 5, 6, 0] dX12_knock_168 (by decide) rfl ?_
  refine aw_aload_n 0 dX12_knock_170 rfl rfl ?_
  refine aw_iload_n 1 dX12_knock_171 rfl rfl ?_
  refine aw_iload_n 3 dX12_knock_172 rfl rfl ?_
  refine aw_iconst 2 dX12_knock_173 (by decide) ?_
  refine aw_icmp_ge 181 dX12_knock_174 (by decide) ?_ ?_
  · refine aw_iconst 1 dX12_knock_181 (by decide) ?_
    refine aw_ls (ls' := [(0, .ref (ad 12 0 0)), (2, .int x2), (4, .int x4), (5, .int x5), (6, .int v_11)]) [0, 2, 4, 5, 6] rfl ?_
    exact c12_knock_p182 σ x2 x4 x5 v_11 x1 1
  · refine aw_iconst 3 dX12_knock_177 (by decide) ?_
    refine aw_goto 182 dX12_knock_178 (by decide) ?_
    refine aw_ls (ls' := [(0, .ref (ad 12 0 0)), (2, .int x2), (4, .int x4), (5, .int x5), (6, .int v_11)]) [0, 2, 4, 5, 6] rfl ?_
    exact c12_knock_p182 σ x2 x4 x5 v_11 x1 3
def F12_knock_L72 (x1 : Int32) (x2 : Int32) (x3 : Int32) : Nat → Mem → Int32 → Option (Bool × Mem)
  | 0 => fun _ _ => none
  | n + 1 => fun σ x4 =>
    if 4 ≤ x4 then (if (F12_isIn (Int32.toInt64 x3) 0 3) = true then ((F12_numberOf σ x1 x3).bind fun v_6 => bnd (Int64.toInt32 v_6) fun v_7 => (F12_numberOf σ x1 (x3 ^^^ 1)).bind fun v_8 => bnd (Int64.toInt32 v_8) fun v_9 => if 2 ≤ x3 then (F12_knock_p164 σ x1 x2 x3 v_7 v_9 x1 0) else (F12_knock_p164 σ x1 x2 x3 v_7 v_9 x1 2)) else (bd (F12_no σ 5) fun v_43 s_44 => some (v_43, s_44))) else ((F12_numberOf σ x1 x4).bind fun v_45 => (ald 3000 (gI σ 12 0 5) 6).bind fun v_46 => if (F12_isIn v_45 0 (Int32.toInt64 (v_46 - 1))) = true then ((F12_knock_L72 x1 x2 x3 n) σ (x4 + 1)) else (bd (F12_no σ 2) fun v_47 s_48 => some (v_47, s_48)))
set_option maxRecDepth 20000 in
theorem c12_knock_L72 {l : Launch} {D : va_G} {ad : Nat → Nat → Nat → Nat} {cid : Nat → Nat → Nat → ClassId} (x1 : Int32) (x2 : Int32) (x3 : Int32) : ∀ (n : Nat) (σ : Mem) (x4 : Int32), AW (XM l D ad cid) M12_knock 8 eB [(0, .ref (ad 12 0 0)), (1, .int x1), (2, .int x2), (3, .int x3), (4, .int x4)] 72 [] σ ((F12_knock_L72 x1 x2 x3 n σ x4).bind some) := by
  intro n
  induction n with
  | zero => intros; exact aw_none
  | succ n ih =>
    intro σ x4
    rw [F12_knock_L72.eq_2]
    refine aw_iload 4 dX12_knock_72 rfl ?_
    refine aw_iconst 4 dX12_knock_74 (by decide) ?_
    refine aw_icmp_ge 114 dX12_knock_75 (by decide) ?_ ?_
    · refine aw_iload_n 3 dX12_knock_114 rfl rfl ?_
      refine aw_i2l dX12_knock_115 ?_
      refine aw_lconst 0 dX12_knock_116 (by decide) ?_
      refine aw_ldc2 w_1981 dX12_knock_117 ?_
      refine aw_callST_B (c12_isIn σ (Int32.toInt64 x3) 0 3) (by decide) mk_12_isIn w_1754 w_1753 rfl rfl (Nat.le_of_ble_eq_true rfl) dX12_knock_120 ?_
      refine aw_bif_ne 132 dX12_knock_123 (by decide) ?_ ?_
      · refine aw_aload_n 0 dX12_knock_132 rfl rfl ?_
        refine aw_iload_n 1 dX12_knock_133 rfl rfl ?_
        refine aw_iload_n 3 dX12_knock_134 rfl rfl ?_
        refine aw_callVO_L (c12_numberOf σ x1 x3) (io_12 (by decide)) ci_12 (by decide) mk_12_numberOf w_2126 w_124 w_2124 rfl rfl (Nat.le_of_ble_eq_true rfl) dX12_knock_135 (fun v_6 => ?_)
        refine aw_l2i dX12_knock_138 ?_
        refine aw_bnd_int (fun v_7 => ?_)
        refine aw_istore (ls' := [(0, .ref (ad 12 0 0)), (1, .int x1), (2, .int x2), (3, .int x3), (4, .int v_7)]) [1, 2, 3, 4, 0] dX12_knock_139 (by decide) rfl ?_
        refine aw_aload_n 0 dX12_knock_141 rfl rfl ?_
        refine aw_iload_n 1 dX12_knock_142 rfl rfl ?_
        refine aw_iload_n 3 dX12_knock_143 rfl rfl ?_
        refine aw_iconst 1 dX12_knock_144 (by decide) ?_
        refine aw_ixor dX12_knock_145 ?_
        refine aw_callVO_L (c12_numberOf σ x1 (x3 ^^^ 1)) (io_12 (by decide)) ci_12 (by decide) mk_12_numberOf w_2126 w_124 w_2124 rfl rfl (Nat.le_of_ble_eq_true rfl) dX12_knock_146 (fun v_8 => ?_)
        refine aw_l2i dX12_knock_149 ?_
        refine aw_bnd_int (fun v_9 => ?_)
        refine aw_istore (ls' := [(0, .ref (ad 12 0 0)), (1, .int x1), (2, .int x2), (3, .int x3), (4, .int v_7), (5, .int v_9)]) [1, 2, 3, 4, 5, 0] dX12_knock_150 (by decide) rfl ?_
        refine aw_aload_n 0 dX12_knock_152 rfl rfl ?_
        refine aw_iload_n 1 dX12_knock_153 rfl rfl ?_
        refine aw_iload_n 3 dX12_knock_154 rfl rfl ?_
        refine aw_iconst 2 dX12_knock_155 (by decide) ?_
        refine aw_icmp_ge 163 dX12_knock_156 (by decide) ?_ ?_
        · refine aw_iconst 0 dX12_knock_163 (by decide) ?_
          exact c12_knock_p164 σ x1 x2 x3 v_7 v_9 x1 0
        · refine aw_iconst 2 dX12_knock_159 (by decide) ?_
          refine aw_goto 164 dX12_knock_160 (by decide) ?_
          exact c12_knock_p164 σ x1 x2 x3 v_7 v_9 x1 2
      · refine aw_aload_n 0 dX12_knock_126 rfl rfl ?_
        refine aw_iconst 5 dX12_knock_127 (by decide) ?_
        refine aw_callVW_B (c12_no σ 5) (io_12 (by decide)) ci_12 (by decide) mk_12_no w_1660 w_49 w_1658 rfl rfl (Nat.le_of_ble_eq_true rfl) dX12_knock_128 (fun v_43 s_44 => ?_)
        exact aw_zreturn (b := v_43) rfl rfl dX12_knock_131
    · refine aw_aload_n 0 dX12_knock_78 rfl rfl ?_
      refine aw_iload_n 1 dX12_knock_79 rfl rfl ?_
      refine aw_iload 4 dX12_knock_80 rfl ?_
      refine aw_callVO_L (c12_numberOf σ x1 x4) (io_12 (by decide)) ci_12 (by decide) mk_12_numberOf w_2126 w_124 w_2124 rfl rfl (Nat.le_of_ble_eq_true rfl) dX12_knock_82 (fun v_45 => ?_)
      refine aw_lconst 0 dX12_knock_85 (by decide) ?_
      refine aw_aload_n 0 dX12_knock_86 rfl rfl ?_
      refine aw_getf (fg_12_20 (by decide)) ci_12 (by decide) w_1478 dX12_knock_87 ?_
      refine aw_bipush 6 dX12_knock_90 (by decide) ?_
      refine aw_iaload (ar_12_5 (by decide)) dX12_knock_92 (fun v_46 => ?_)
      refine aw_iconst 1 dX12_knock_93 (by decide) ?_
      refine aw_isub dX12_knock_94 ?_
      refine aw_i2l dX12_knock_95 ?_
      refine aw_callST_B (c12_isIn σ v_45 0 (Int32.toInt64 (v_46 - 1))) (by decide) mk_12_isIn w_1754 w_1753 rfl rfl (Nat.le_of_ble_eq_true rfl) dX12_knock_96 ?_
      refine aw_bif_ne 108 dX12_knock_99 (by decide) ?_ ?_
      · refine aw_iinc (ls' := [(0, .ref (ad 12 0 0)), (1, .int x1), (2, .int x2), (3, .int x3), (4, .int (x4 + 1))]) (x4 + 1) 4 [1, 2, 3, 4, 0] dX12_knock_108 rfl (by rfl) (by decide) rfl ?_
        refine aw_goto 72 dX12_knock_111 (by decide) ?_
        exact ih σ (x4 + 1)
      · refine aw_aload_n 0 dX12_knock_102 rfl rfl ?_
        refine aw_iconst 2 dX12_knock_103 (by decide) ?_
        refine aw_callVW_B (c12_no σ 2) (io_12 (by decide)) ci_12 (by decide) mk_12_no w_1660 w_49 w_1658 rfl rfl (Nat.le_of_ble_eq_true rfl) dX12_knock_104 (fun v_47 s_48 => ?_)
        exact aw_zreturn (b := v_47) rfl rfl dX12_knock_107
def F12_knock (σ : Mem) (x1 : Int32) (x2 : Int32) (x3 : Int32) : Option (Bool × Mem) :=
  bnd (sI σ 12 0 0 1 0) fun s_1 => bnd (sI s_1 12 0 0 0 0) fun s_2 => if (F12_isTray x1) = true then ((ald 4 (gI s_2 12 0 2) x1).bind fun v_3 => if 0 ≤ v_3 then ((ald 4 (gI s_2 12 0 2) x1).bind fun v_4 => if 4 ≤ v_4 then ((F12_isPeaAt s_2 x2).bind fun v_5 => if v_5 = true then (F12_knock_L72 x1 x2 x3 fuelK s_2 0) else (bd (F12_no s_2 2) fun v_49 s_50 => some (v_49, s_50))) else (bd (F12_no s_2 4) fun v_51 s_52 => some (v_51, s_52))) else (bd (F12_no s_2 3) fun v_53 s_54 => some (v_53, s_54))) else (bd (F12_no s_2 1) fun v_55 s_56 => some (v_55, s_56))
set_option maxRecDepth 20000 in
theorem c12_knock {l : Launch} {D : va_G} {ad : Nat → Nat → Nat → Nat} {cid : Nat → Nat → Nat → ClassId} (σ : Mem) (x1 : Int32) (x2 : Int32) (x3 : Int32) : AMF (XM l D ad cid) M12_knock 8 eB [.ref (ad 12 0 0), .int x1, .int x2, .int x3] σ (F12_knock σ x1 x2 x3) := by
  refine AM.ofW (by decide +kernel) (Nat.le_of_ble_eq_true rfl) (ls := [(0, .ref (ad 12 0 0)), (1, .int x1), (2, .int x2), (3, .int x3)]) rfl ?_
  refine aw_entry ?_
  unfold F12_knock
  refine aw_aload_n 0 dX12_knock_0 rfl rfl ?_
  refine aw_iconst 0 dX12_knock_1 (by decide) ?_
  refine aw_putI (fs_12_1 (by decide)) ci_12 (by decide) rfl rfl w_1459 dX12_knock_2 ?_
  refine aw_bndM (fun s_1 => ?_)
  refine aw_aload_n 0 dX12_knock_5 rfl rfl ?_
  refine aw_iconst 0 dX12_knock_6 (by decide) ?_
  refine aw_putI (fs_12_0 (by decide)) ci_12 (by decide) rfl rfl w_1458 dX12_knock_7 ?_
  refine aw_bndM (fun s_2 => ?_)
  refine aw_aload_n 0 dX12_knock_10 rfl rfl ?_
  refine aw_iload_n 1 dX12_knock_11 rfl rfl ?_
  refine aw_callVT_B (c12_isTray s_2 x1) (io_12 (by decide)) ci_12 (by decide) mk_12_isTray w_2122 w_123 w_2120 rfl rfl (Nat.le_of_ble_eq_true rfl) dX12_knock_12 ?_
  refine aw_bif_ne 24 dX12_knock_15 (by decide) ?_ ?_
  · refine aw_aload_n 0 dX12_knock_24 rfl rfl ?_
    refine aw_getf (fg_12_5 (by decide)) ci_12 (by decide) w_1463 dX12_knock_25 ?_
    refine aw_iload_n 1 dX12_knock_28 rfl rfl ?_
    refine aw_iaload (ar_12_2 (by decide)) dX12_knock_29 (fun v_3 => ?_)
    refine aw_if_ge 39 dX12_knock_30 (by decide) ?_ ?_
    · refine aw_aload_n 0 dX12_knock_39 rfl rfl ?_
      refine aw_getf (fg_12_5 (by decide)) ci_12 (by decide) w_1463 dX12_knock_40 ?_
      refine aw_iload_n 1 dX12_knock_43 rfl rfl ?_
      refine aw_iaload (ar_12_2 (by decide)) dX12_knock_44 (fun v_4 => ?_)
      refine aw_iconst 4 dX12_knock_45 (by decide) ?_
      refine aw_icmp_ge 55 dX12_knock_46 (by decide) ?_ ?_
      · refine aw_aload_n 0 dX12_knock_55 rfl rfl ?_
        refine aw_iload_n 2 dX12_knock_56 rfl rfl ?_
        refine aw_callVO_B (c12_isPeaAt s_2 x2) (io_12 (by decide)) ci_12 (by decide) mk_12_isPeaAt w_1933 w_102 w_1931 rfl rfl (Nat.le_of_ble_eq_true rfl) dX12_knock_57 (fun v_5 => ?_)
        refine aw_bif_ne 69 dX12_knock_60 (by decide) ?_ ?_
        · refine aw_iconst 0 dX12_knock_69 (by decide) ?_
          refine aw_istore (ls' := [(0, .ref (ad 12 0 0)), (1, .int x1), (2, .int x2), (3, .int x3), (4, .int 0)]) [1, 2, 3, 4, 0] dX12_knock_70 (by decide) rfl ?_
          exact c12_knock_L72 x1 x2 x3 fuelK s_2 0
        · refine aw_aload_n 0 dX12_knock_63 rfl rfl ?_
          refine aw_iconst 2 dX12_knock_64 (by decide) ?_
          refine aw_callVW_B (c12_no s_2 2) (io_12 (by decide)) ci_12 (by decide) mk_12_no w_1660 w_49 w_1658 rfl rfl (Nat.le_of_ble_eq_true rfl) dX12_knock_65 (fun v_49 s_50 => ?_)
          exact aw_zreturn (b := v_49) rfl rfl dX12_knock_68
      · refine aw_aload_n 0 dX12_knock_49 rfl rfl ?_
        refine aw_iconst 4 dX12_knock_50 (by decide) ?_
        refine aw_callVW_B (c12_no s_2 4) (io_12 (by decide)) ci_12 (by decide) mk_12_no w_1660 w_49 w_1658 rfl rfl (Nat.le_of_ble_eq_true rfl) dX12_knock_51 (fun v_51 s_52 => ?_)
        exact aw_zreturn (b := v_51) rfl rfl dX12_knock_54
    · refine aw_aload_n 0 dX12_knock_33 rfl rfl ?_
      refine aw_iconst 3 dX12_knock_34 (by decide) ?_
      refine aw_callVW_B (c12_no s_2 3) (io_12 (by decide)) ci_12 (by decide) mk_12_no w_1660 w_49 w_1658 rfl rfl (Nat.le_of_ble_eq_true rfl) dX12_knock_35 (fun v_53 s_54 => ?_)
      exact aw_zreturn (b := v_53) rfl rfl dX12_knock_38
  · refine aw_aload_n 0 dX12_knock_18 rfl rfl ?_
    refine aw_iconst 1 dX12_knock_19 (by decide) ?_
    refine aw_callVW_B (c12_no s_2 1) (io_12 (by decide)) ci_12 (by decide) mk_12_no w_1660 w_49 w_1658 rfl rfl (Nat.le_of_ble_eq_true rfl) dX12_knock_20 (fun v_55 s_56 => ?_)
    exact aw_zreturn (b := v_55) rfl rfl dX12_knock_23
def F12_hole (σ : Mem) (x1 : Int32) (x2 : Int32) : Option (Int32 × Mem) :=
  bnd (sI σ 12 0 0 1 0) fun s_1 => bnd (sI s_1 12 0 0 0 0) fun s_2 => if (F12_isIn (Int32.toInt64 x2) 0 3) = true then ((ald 3000 (gI s_2 12 0 5) 8).bind fun v_3 => if (F12_isIn (Int32.toInt64 x1) 0 (Int32.toInt64 (v_3 - 1))) = true then ((ald 3000 (gI s_2 12 0 5) ((F12_holeAt x1) + x2)).bind fun v_6 => some (v_6, s_2)) else (bd (F12_refuse s_2 8) fun v_4 s_5 => some (v_4, s_5))) else (bd (F12_refuse s_2 5) fun v_7 s_8 => some (v_7, s_8))
set_option maxRecDepth 20000 in
theorem c12_hole {l : Launch} {D : va_G} {ad : Nat → Nat → Nat → Nat} {cid : Nat → Nat → Nat → ClassId} (σ : Mem) (x1 : Int32) (x2 : Int32) : AMF (XM l D ad cid) M12_hole 1 eI [.ref (ad 12 0 0), .int x1, .int x2] σ (F12_hole σ x1 x2) := by
  refine AM.ofW (by decide +kernel) (Nat.le_of_ble_eq_true rfl) (ls := [(0, .ref (ad 12 0 0)), (1, .int x1), (2, .int x2)]) rfl ?_
  refine aw_entry ?_
  unfold F12_hole
  refine aw_aload_n 0 dX12_hole_0 rfl rfl ?_
  refine aw_iconst 0 dX12_hole_1 (by decide) ?_
  refine aw_putI (fs_12_1 (by decide)) ci_12 (by decide) rfl rfl w_1459 dX12_hole_2 ?_
  refine aw_bndM (fun s_1 => ?_)
  refine aw_aload_n 0 dX12_hole_5 rfl rfl ?_
  refine aw_iconst 0 dX12_hole_6 (by decide) ?_
  refine aw_putI (fs_12_0 (by decide)) ci_12 (by decide) rfl rfl w_1458 dX12_hole_7 ?_
  refine aw_bndM (fun s_2 => ?_)
  refine aw_iload_n 2 dX12_hole_10 rfl rfl ?_
  refine aw_i2l dX12_hole_11 ?_
  refine aw_lconst 0 dX12_hole_12 (by decide) ?_
  refine aw_ldc2 w_1981 dX12_hole_13 ?_
  refine aw_callST_B (c12_isIn s_2 (Int32.toInt64 x2) 0 3) (by decide) mk_12_isIn w_1754 w_1753 rfl rfl (Nat.le_of_ble_eq_true rfl) dX12_hole_16 ?_
  refine aw_bif_ne 28 dX12_hole_19 (by decide) ?_ ?_
  · refine aw_iload_n 1 dX12_hole_28 rfl rfl ?_
    refine aw_i2l dX12_hole_29 ?_
    refine aw_lconst 0 dX12_hole_30 (by decide) ?_
    refine aw_aload_n 0 dX12_hole_31 rfl rfl ?_
    refine aw_getf (fg_12_20 (by decide)) ci_12 (by decide) w_1478 dX12_hole_32 ?_
    refine aw_bipush 8 dX12_hole_35 (by decide) ?_
    refine aw_iaload (ar_12_5 (by decide)) dX12_hole_37 (fun v_3 => ?_)
    refine aw_iconst 1 dX12_hole_38 (by decide) ?_
    refine aw_isub dX12_hole_39 ?_
    refine aw_i2l dX12_hole_40 ?_
    refine aw_callST_B (c12_isIn s_2 (Int32.toInt64 x1) 0 (Int32.toInt64 (v_3 - 1))) (by decide) mk_12_isIn w_1754 w_1753 rfl rfl (Nat.le_of_ble_eq_true rfl) dX12_hole_41 ?_
    refine aw_bif_eq 61 dX12_hole_44 (by decide) ?_ ?_
    · refine aw_aload_n 0 dX12_hole_61 rfl rfl ?_
      refine aw_bipush 8 dX12_hole_62 (by decide) ?_
      refine aw_callVW_I (c12_refuse s_2 8) (io_12 (by decide)) ci_12 (by decide) mk_12_refuse w_1921 w_101 w_1919 rfl rfl (Nat.le_of_ble_eq_true rfl) dX12_hole_64 (fun v_4 s_5 => ?_)
      exact aw_ireturn rfl dX12_hole_67
    · refine aw_aload_n 0 dX12_hole_47 rfl rfl ?_
      refine aw_getf (fg_12_20 (by decide)) ci_12 (by decide) w_1478 dX12_hole_48 ?_
      refine aw_iload_n 1 dX12_hole_51 rfl rfl ?_
      refine aw_callST_I (c12_holeAt s_2 x1) (by decide) mk_12_holeAt w_1956 w_1955 rfl rfl (Nat.le_of_ble_eq_true rfl) dX12_hole_52 ?_
      refine aw_iload_n 2 dX12_hole_55 rfl rfl ?_
      refine aw_iadd dX12_hole_56 ?_
      refine aw_iaload (ar_12_5 (by decide)) dX12_hole_57 (fun v_6 => ?_)
      refine aw_goto 67 dX12_hole_58 (by decide) ?_
      exact aw_ireturn rfl dX12_hole_67
  · refine aw_aload_n 0 dX12_hole_22 rfl rfl ?_
    refine aw_iconst 5 dX12_hole_23 (by decide) ?_
    refine aw_callVW_I (c12_refuse s_2 5) (io_12 (by decide)) ci_12 (by decide) mk_12_refuse w_1921 w_101 w_1919 rfl rfl (Nat.le_of_ble_eq_true rfl) dX12_hole_24 (fun v_7 s_8 => ?_)
    exact aw_ireturn rfl dX12_hole_27
def F12_sumHoles_L22 (x1 : Int32) (x2 : Int32) : Nat → Mem → Int32 → Option ((Unit) × Mem)
  | 0 => fun _ _ => none
  | n + 1 => fun σ x3 =>
    (ald 3000 (gI σ 12 0 5) 8).bind fun v_5 => if v_5 ≤ x3 then (some ((), σ)) else ((F12_isHoleOf σ x3 x1 x2).bind fun v_6 => if v_6 = true then ((ald 3000 (gI σ 12 0 5) (F12_holeAt x3)).bind fun v_7 => (ald 3000 (gI σ 12 0 5) ((F12_holeAt x3) + 1)).bind fun v_8 => bnd (sL σ 12 0 0 42 ((gL σ 12 0 0 42) + 1)) fun s_9 => bnd (sL s_9 12 0 0 43 ((gL s_9 12 0 0 43) + (Int32.toInt64 v_7))) fun s_10 => bnd (sL s_10 12 0 0 44 ((gL s_10 12 0 0 44) + (Int32.toInt64 v_8))) fun s_11 => bnd (sL s_11 12 0 0 45 ((gL s_11 12 0 0 45) + (Int32.toInt64 ((v_7 * v_7) + (v_8 * v_8))))) fun s_12 => (F12_sumHoles_L22 x1 x2 n) s_12 (x3 + 1)) else ((F12_sumHoles_L22 x1 x2 n) σ (x3 + 1)))
set_option maxRecDepth 20000 in
theorem c12_sumHoles_L22 {l : Launch} {D : va_G} {ad : Nat → Nat → Nat → Nat} {cid : Nat → Nat → Nat → ClassId} {α : Type} {emb : α → Option Value} (x1 : Int32) (x2 : Int32) {G : Unit → Mem → Option (α × Mem)} (kx : ∀ r σ, AW (XM l D ad cid) M12_sumHoles 2 emb [] 131 [] σ (G r σ)) : ∀ (n : Nat) (σ : Mem) (x3 : Int32), AW (XM l D ad cid) M12_sumHoles 2 emb [(0, .ref (ad 12 0 0)), (1, .int x1), (2, .int x2), (3, .int x3)] 22 [] σ (bd (F12_sumHoles_L22 x1 x2 n σ x3) G) := by
  intro n
  induction n with
  | zero => intros; exact aw_none
  | succ n ih =>
    intro σ x3
    refine aw_bdB ?_
    rw [F12_sumHoles_L22.eq_2]
    refine aw_iload_n 3 dX12_sumHoles_22 rfl rfl ?_
    refine aw_aload_n 0 dX12_sumHoles_23 rfl rfl ?_
    refine aw_getf (fg_12_20 (by decide)) ci_12 (by decide) w_1478 dX12_sumHoles_24 ?_
    refine aw_bipush 8 dX12_sumHoles_27 (by decide) ?_
    refine aw_iaload (ar_12_5 (by decide)) dX12_sumHoles_29 (fun v_5 => ?_)
    refine aw_icmp_ge 131 dX12_sumHoles_30 (by decide) ?_ ?_
    · refine aw_ls (ls' := []) [] rfl ?_
      exact kx () σ
    · refine aw_aload_n 0 dX12_sumHoles_33 rfl rfl ?_
      refine aw_iload_n 3 dX12_sumHoles_34 rfl rfl ?_
      refine aw_iload_n 1 dX12_sumHoles_35 rfl rfl ?_
      refine aw_iload_n 2 dX12_sumHoles_36 rfl rfl ?_
      refine aw_callVO_B (c12_isHoleOf σ x3 x1 x2) (io_12 (by decide)) ci_12 (by decide) mk_12_isHoleOf w_1953 w_106 w_1951 rfl rfl (Nat.le_of_ble_eq_true rfl) dX12_sumHoles_37 (fun v_6 => ?_)
      refine aw_bif_ne 46 dX12_sumHoles_40 (by decide) ?_ ?_
      · refine aw_aload_n 0 dX12_sumHoles_46 rfl rfl ?_
        refine aw_getf (fg_12_20 (by decide)) ci_12 (by decide) w_1478 dX12_sumHoles_47 ?_
        refine aw_iload_n 3 dX12_sumHoles_50 rfl rfl ?_
        refine aw_callST_I (c12_holeAt σ x3) (by decide) mk_12_holeAt w_1956 w_1955 rfl rfl (Nat.le_of_ble_eq_true rfl) dX12_sumHoles_51 ?_
        refine aw_iaload (ar_12_5 (by decide)) dX12_sumHoles_54 (fun v_7 => ?_)
        refine aw_istore (ls' := [(0, .ref (ad 12 0 0)), (1, .int x1), (2, .int x2), (3, .int x3), (4, .int v_7)]) [1, 2, 3, 4, 0] dX12_sumHoles_55 (by decide) rfl ?_
        refine aw_aload_n 0 dX12_sumHoles_57 rfl rfl ?_
        refine aw_getf (fg_12_20 (by decide)) ci_12 (by decide) w_1478 dX12_sumHoles_58 ?_
        refine aw_iload_n 3 dX12_sumHoles_61 rfl rfl ?_
        refine aw_callST_I (c12_holeAt σ x3) (by decide) mk_12_holeAt w_1956 w_1955 rfl rfl (Nat.le_of_ble_eq_true rfl) dX12_sumHoles_62 ?_
        refine aw_iconst 1 dX12_sumHoles_65 (by decide) ?_
        refine aw_iadd dX12_sumHoles_66 ?_
        refine aw_iaload (ar_12_5 (by decide)) dX12_sumHoles_67 (fun v_8 => ?_)
        refine aw_istore (ls' := [(0, .ref (ad 12 0 0)), (1, .int x1), (2, .int x2), (3, .int x3), (4, .int v_7), (5, .int v_8)]) [1, 2, 3, 4, 5, 0] dX12_sumHoles_68 (by decide) rfl ?_
        refine aw_aload_n 0 dX12_sumHoles_70 rfl rfl ?_
        refine aw_dup dX12_sumHoles_71 rfl ?_
        refine aw_getf (fg_12_42 (by decide)) ci_12 (by decide) w_1500 dX12_sumHoles_72 ?_
        refine aw_lconst 1 dX12_sumHoles_75 (by decide) ?_
        refine aw_ladd dX12_sumHoles_76 ?_
        refine aw_putL (fs_12_42 (by decide)) ci_12 (by decide) rfl rfl w_1500 dX12_sumHoles_77 ?_
        refine aw_bndM (fun s_9 => ?_)
        refine aw_aload_n 0 dX12_sumHoles_80 rfl rfl ?_
        refine aw_dup dX12_sumHoles_81 rfl ?_
        refine aw_getf (fg_12_43 (by decide)) ci_12 (by decide) w_1501 dX12_sumHoles_82 ?_
        refine aw_iload 4 dX12_sumHoles_85 rfl ?_
        refine aw_i2l dX12_sumHoles_87 ?_
        refine aw_ladd dX12_sumHoles_88 ?_
        refine aw_putL (fs_12_43 (by decide)) ci_12 (by decide) rfl rfl w_1501 dX12_sumHoles_89 ?_
        refine aw_bndM (fun s_10 => ?_)
        refine aw_aload_n 0 dX12_sumHoles_92 rfl rfl ?_
        refine aw_dup dX12_sumHoles_93 rfl ?_
        refine aw_getf (fg_12_44 (by decide)) ci_12 (by decide) w_1502 dX12_sumHoles_94 ?_
        refine aw_iload 5 dX12_sumHoles_97 rfl ?_
        refine aw_i2l dX12_sumHoles_99 ?_
        refine aw_ladd dX12_sumHoles_100 ?_
        refine aw_putL (fs_12_44 (by decide)) ci_12 (by decide) rfl rfl w_1502 dX12_sumHoles_101 ?_
        refine aw_bndM (fun s_11 => ?_)
        refine aw_aload_n 0 dX12_sumHoles_104 rfl rfl ?_
        refine aw_dup dX12_sumHoles_105 rfl ?_
        refine aw_getf (fg_12_45 (by decide)) ci_12 (by decide) w_1503 dX12_sumHoles_106 ?_
        refine aw_iload 4 dX12_sumHoles_109 rfl ?_
        refine aw_iload 4 dX12_sumHoles_111 rfl ?_
        refine aw_imul dX12_sumHoles_113 ?_
        refine aw_iload 5 dX12_sumHoles_114 rfl ?_
        refine aw_iload 5 dX12_sumHoles_116 rfl ?_
        refine aw_imul dX12_sumHoles_118 ?_
        refine aw_iadd dX12_sumHoles_119 ?_
        refine aw_i2l dX12_sumHoles_120 ?_
        refine aw_ladd dX12_sumHoles_121 ?_
        refine aw_putL (fs_12_45 (by decide)) ci_12 (by decide) rfl rfl w_1503 dX12_sumHoles_122 ?_
        refine aw_bndM (fun s_12 => ?_)
        refine aw_iinc (ls' := [(0, .ref (ad 12 0 0)), (1, .int x1), (2, .int x2), (3, .int (x3 + 1))]) (x3 + 1) 3 [1, 2, 3, 0] dX12_sumHoles_125 rfl (by rfl) (by decide) rfl ?_
        refine aw_goto 22 dX12_sumHoles_128 (by decide) ?_
        exact ih s_12 (x3 + 1)
      · refine aw_goto 125 dX12_sumHoles_43 (by decide) ?_
        refine aw_iinc (ls' := [(0, .ref (ad 12 0 0)), (1, .int x1), (2, .int x2), (3, .int (x3 + 1))]) (x3 + 1) 3 [1, 2, 3, 0] dX12_sumHoles_125 rfl (by rfl) (by decide) rfl ?_
        refine aw_goto 22 dX12_sumHoles_128 (by decide) ?_
        exact ih σ (x3 + 1)
def F12_sumHoles (σ : Mem) (x1 : Int32) (x2 : Int32) : Option (Unit × Mem) :=
  bnd (sL σ 12 0 0 42 0) fun s_1 => bnd (sL s_1 12 0 0 43 0) fun s_2 => bnd (sL s_2 12 0 0 44 0) fun s_3 => bnd (sL s_3 12 0 0 45 0) fun s_4 => bd (F12_sumHoles_L22 x1 x2 fuelK s_4 0) fun r_13 s_14 => some ((), s_14)
set_option maxRecDepth 20000 in
theorem c12_sumHoles {l : Launch} {D : va_G} {ad : Nat → Nat → Nat → Nat} {cid : Nat → Nat → Nat → ClassId} (σ : Mem) (x1 : Int32) (x2 : Int32) : AMF (XM l D ad cid) M12_sumHoles 2 eU [.ref (ad 12 0 0), .int x1, .int x2] σ (F12_sumHoles σ x1 x2) := by
  refine AM.ofW (by decide +kernel) (Nat.le_of_ble_eq_true rfl) (ls := [(0, .ref (ad 12 0 0)), (1, .int x1), (2, .int x2)]) rfl ?_
  refine aw_entry ?_
  unfold F12_sumHoles
  refine aw_aload_n 0 dX12_sumHoles_0 rfl rfl ?_
  refine aw_lconst 0 dX12_sumHoles_1 (by decide) ?_
  refine aw_putL (fs_12_42 (by decide)) ci_12 (by decide) rfl rfl w_1500 dX12_sumHoles_2 ?_
  refine aw_bndM (fun s_1 => ?_)
  refine aw_aload_n 0 dX12_sumHoles_5 rfl rfl ?_
  refine aw_lconst 0 dX12_sumHoles_6 (by decide) ?_
  refine aw_putL (fs_12_43 (by decide)) ci_12 (by decide) rfl rfl w_1501 dX12_sumHoles_7 ?_
  refine aw_bndM (fun s_2 => ?_)
  refine aw_aload_n 0 dX12_sumHoles_10 rfl rfl ?_
  refine aw_lconst 0 dX12_sumHoles_11 (by decide) ?_
  refine aw_putL (fs_12_44 (by decide)) ci_12 (by decide) rfl rfl w_1502 dX12_sumHoles_12 ?_
  refine aw_bndM (fun s_3 => ?_)
  refine aw_aload_n 0 dX12_sumHoles_15 rfl rfl ?_
  refine aw_lconst 0 dX12_sumHoles_16 (by decide) ?_
  refine aw_putL (fs_12_45 (by decide)) ci_12 (by decide) rfl rfl w_1503 dX12_sumHoles_17 ?_
  refine aw_bndM (fun s_4 => ?_)
  refine aw_iconst 0 dX12_sumHoles_20 (by decide) ?_
  refine aw_istore_n (ls' := [(0, .ref (ad 12 0 0)), (1, .int x1), (2, .int x2), (3, .int 0)]) [1, 2, 3, 0] dX12_sumHoles_21 rfl (by decide) rfl ?_
  refine aw_assocW ?_
  refine c12_sumHoles_L22 x1 x2 (fun r_13 s_14 => ?_) fuelK s_4 0
  exact aw_return rfl dX12_sumHoles_131
def F12_spread (σ : Mem)  : Int64 :=
  ((((gL σ 12 0 0 42) * (gL σ 12 0 0 45)) - ((gL σ 12 0 0 43) * (gL σ 12 0 0 43))) - ((gL σ 12 0 0 44) * (gL σ 12 0 0 44)))
set_option maxRecDepth 20000 in
theorem c12_spread {l : Launch} {D : va_G} {ad : Nat → Nat → Nat → Nat} {cid : Nat → Nat → Nat → ClassId} (σ : Mem)  : AMF (XM l D ad cid) M12_spread 0 eL [.ref (ad 12 0 0)] σ (some (F12_spread σ, σ)) := by
  refine AM.ofW (by decide +kernel) (Nat.le_of_ble_eq_true rfl) (ls := [(0, .ref (ad 12 0 0))]) rfl ?_
  refine aw_entryT ?_
  unfold F12_spread
  refine aw_aload_n 0 dX12_spread_0 rfl rfl ?_
  refine aw_getf (fg_12_42 (by decide)) ci_12 (by decide) w_1500 dX12_spread_1 ?_
  refine aw_aload_n 0 dX12_spread_4 rfl rfl ?_
  refine aw_getf (fg_12_45 (by decide)) ci_12 (by decide) w_1503 dX12_spread_5 ?_
  refine aw_lmul dX12_spread_8 ?_
  refine aw_aload_n 0 dX12_spread_9 rfl rfl ?_
  refine aw_getf (fg_12_43 (by decide)) ci_12 (by decide) w_1501 dX12_spread_10 ?_
  refine aw_aload_n 0 dX12_spread_13 rfl rfl ?_
  refine aw_getf (fg_12_43 (by decide)) ci_12 (by decide) w_1501 dX12_spread_14 ?_
  refine aw_lmul dX12_spread_17 ?_
  refine aw_lsub dX12_spread_18 ?_
  refine aw_aload_n 0 dX12_spread_19 rfl rfl ?_
  refine aw_getf (fg_12_44 (by decide)) ci_12 (by decide) w_1502 dX12_spread_20 ?_
  refine aw_aload_n 0 dX12_spread_23 rfl rfl ?_
  refine aw_getf (fg_12_44 (by decide)) ci_12 (by decide) w_1502 dX12_spread_24 ?_
  refine aw_lmul dX12_spread_27 ?_
  refine aw_lsub dX12_spread_28 ?_
  exact aw_lreturn rfl dX12_spread_29
def F12_lean_p42 (σ : Mem) (x1 : Int32) (x2 : Int32) (x3 : Int32) : Option (Bool × Mem) :=
  if (F12_isIn (Int32.toInt64 x3) 0 2) = true then (bd (F12_sumHoles σ x1 x2) fun _ s_3 => if (gL s_3 12 0 0 42) = 0 then (bd (F12_no s_3 8) fun v_10 s_11 => some (v_10, s_11)) else (if x3 = 2 then (bd (F12_fraction s_3 (F12_spread s_3) ((gL s_3 12 0 0 42) * (gL s_3 12 0 0 42))) fun v_8 s_9 => some (v_8, s_9)) else (if x3 = 0 then (bd (F12_fraction s_3 (gL s_3 12 0 0 43) (gL s_3 12 0 0 42)) fun v_6 s_7 => some (v_6, s_7)) else (bd (F12_fraction s_3 (gL s_3 12 0 0 44) (gL s_3 12 0 0 42)) fun v_4 s_5 => some (v_4, s_5))))) else (bd (F12_no σ 5) fun v_12 s_13 => some (v_12, s_13))
set_option maxRecDepth 20000 in
theorem c12_lean_p42 {l : Launch} {D : va_G} {ad : Nat → Nat → Nat → Nat} {cid : Nat → Nat → Nat → ClassId} (σ : Mem) (x1 : Int32) (x2 : Int32) (x3 : Int32) : AW (XM l D ad cid) M12_lean 3 eB [(0, .ref (ad 12 0 0)), (1, .int x1), (2, .int x2), (3, .int x3)] 42 [] σ ((F12_lean_p42 σ x1 x2 x3).bind some) := by
  unfold F12_lean_p42
  refine aw_iload_n 3 dX12_lean_42 rfl rfl ?_
  refine aw_i2l dX12_lean_43 ?_
  refine aw_lconst 0 dX12_lean_44 (by decide) ?_
  refine aw_ldc2 w_2107 dX12_lean_45 ?_
  refine aw_callST_B (c12_isIn σ (Int32.toInt64 x3) 0 2) (by decide) mk_12_isIn w_1754 w_1753 rfl rfl (Nat.le_of_ble_eq_true rfl) dX12_lean_48 ?_
  refine aw_bif_ne 60 dX12_lean_51 (by decide) ?_ ?_
  · refine aw_aload_n 0 dX12_lean_60 rfl rfl ?_
    refine aw_iload_n 1 dX12_lean_61 rfl rfl ?_
    refine aw_iload_n 2 dX12_lean_62 rfl rfl ?_
    refine aw_callVW_U (c12_sumHoles σ x1 x2) (io_12 (by decide)) ci_12 (by decide) mk_12_sumHoles w_2146 w_127 w_2144 rfl rfl (Nat.le_of_ble_eq_true rfl) dX12_lean_63 (fun _ s_3 => ?_)
    refine aw_aload_n 0 dX12_lean_66 rfl rfl ?_
    refine aw_getf (fg_12_42 (by decide)) ci_12 (by decide) w_1500 dX12_lean_67 ?_
    refine aw_lconst 0 dX12_lean_70 (by decide) ?_
    refine aw_lcmp dX12_lean_71 ?_
    refine aw_lif_ne 82 dX12_lean_72 (by decide) ?_ ?_
    · refine aw_iload_n 3 dX12_lean_82 rfl rfl ?_
      refine aw_iconst 2 dX12_lean_83 (by decide) ?_
      refine aw_icmp_ne 105 dX12_lean_84 (by decide) ?_ ?_
      · refine aw_aload_n 0 dX12_lean_105 rfl rfl ?_
        refine aw_iload_n 3 dX12_lean_106 rfl rfl ?_
        refine aw_if_ne 117 dX12_lean_107 (by decide) ?_ ?_
        · refine aw_aload_n 0 dX12_lean_117 rfl rfl ?_
          refine aw_getf (fg_12_44 (by decide)) ci_12 (by decide) w_1502 dX12_lean_118 ?_
          refine aw_aload_n 0 dX12_lean_121 rfl rfl ?_
          refine aw_getf (fg_12_42 (by decide)) ci_12 (by decide) w_1500 dX12_lean_122 ?_
          refine aw_callVW_B (c12_fraction s_3 (gL s_3 12 0 0 44) (gL s_3 12 0 0 42)) (io_12 (by decide)) ci_12 (by decide) mk_12_fraction w_2052 w_117 w_2050 rfl rfl (Nat.le_of_ble_eq_true rfl) dX12_lean_125 (fun v_4 s_5 => ?_)
          exact aw_zreturn (b := v_4) rfl rfl dX12_lean_128
        · refine aw_aload_n 0 dX12_lean_110 rfl rfl ?_
          refine aw_getf (fg_12_43 (by decide)) ci_12 (by decide) w_1501 dX12_lean_111 ?_
          refine aw_goto 121 dX12_lean_114 (by decide) ?_
          refine aw_aload_n 0 dX12_lean_121 rfl rfl ?_
          refine aw_getf (fg_12_42 (by decide)) ci_12 (by decide) w_1500 dX12_lean_122 ?_
          refine aw_callVW_B (c12_fraction s_3 (gL s_3 12 0 0 43) (gL s_3 12 0 0 42)) (io_12 (by decide)) ci_12 (by decide) mk_12_fraction w_2052 w_117 w_2050 rfl rfl (Nat.le_of_ble_eq_true rfl) dX12_lean_125 (fun v_6 s_7 => ?_)
          exact aw_zreturn (b := v_6) rfl rfl dX12_lean_128
      · refine aw_aload_n 0 dX12_lean_87 rfl rfl ?_
        refine aw_aload_n 0 dX12_lean_88 rfl rfl ?_
        refine aw_callVT_L (c12_spread s_3 ) (io_12 (by decide)) ci_12 (by decide) mk_12_spread w_2150 w_128 w_2148 rfl rfl (Nat.le_of_ble_eq_true rfl) dX12_lean_89 ?_
        refine aw_aload_n 0 dX12_lean_92 rfl rfl ?_
        refine aw_getf (fg_12_42 (by decide)) ci_12 (by decide) w_1500 dX12_lean_93 ?_
        refine aw_aload_n 0 dX12_lean_96 rfl rfl ?_
        refine aw_getf (fg_12_42 (by decide)) ci_12 (by decide) w_1500 dX12_lean_97 ?_
        refine aw_lmul dX12_lean_100 ?_
        refine aw_callVW_B (c12_fraction s_3 (F12_spread s_3) ((gL s_3 12 0 0 42) * (gL s_3 12 0 0 42))) (io_12 (by decide)) ci_12 (by decide) mk_12_fraction w_2052 w_117 w_2050 rfl rfl (Nat.le_of_ble_eq_true rfl) dX12_lean_101 (fun v_8 s_9 => ?_)
        exact aw_zreturn (b := v_8) rfl rfl dX12_lean_104
    · refine aw_aload_n 0 dX12_lean_75 rfl rfl ?_
      refine aw_bipush 8 dX12_lean_76 (by decide) ?_
      refine aw_callVW_B (c12_no s_3 8) (io_12 (by decide)) ci_12 (by decide) mk_12_no w_1660 w_49 w_1658 rfl rfl (Nat.le_of_ble_eq_true rfl) dX12_lean_78 (fun v_10 s_11 => ?_)
      exact aw_zreturn (b := v_10) rfl rfl dX12_lean_81
  · refine aw_aload_n 0 dX12_lean_54 rfl rfl ?_
    refine aw_iconst 5 dX12_lean_55 (by decide) ?_
    refine aw_callVW_B (c12_no σ 5) (io_12 (by decide)) ci_12 (by decide) mk_12_no w_1660 w_49 w_1658 rfl rfl (Nat.le_of_ble_eq_true rfl) dX12_lean_56 (fun v_12 s_13 => ?_)
    exact aw_zreturn (b := v_12) rfl rfl dX12_lean_59
def F12_lean_p23 (σ : Mem) (x1 : Int32) (x2 : Int32) (x3 : Int32) : Option (Bool × Mem) :=
  if x2 = (-1) then (F12_lean_p42 σ x1 x2 x3) else ((F12_isPeaAt σ x2).bind fun v_14 => if v_14 = true then (F12_lean_p42 σ x1 x2 x3) else (bd (F12_no σ 2) fun v_15 s_16 => some (v_15, s_16)))
set_option maxRecDepth 20000 in
theorem c12_lean_p23 {l : Launch} {D : va_G} {ad : Nat → Nat → Nat → Nat} {cid : Nat → Nat → Nat → ClassId} (σ : Mem) (x1 : Int32) (x2 : Int32) (x3 : Int32) : AW (XM l D ad cid) M12_lean 3 eB [(0, .ref (ad 12 0 0)), (1, .int x1), (2, .int x2), (3, .int x3)] 23 [] σ ((F12_lean_p23 σ x1 x2 x3).bind some) := by
  unfold F12_lean_p23
  refine aw_iload_n 2 dX12_lean_23 rfl rfl ?_
  refine aw_iconst (-1) dX12_lean_24 (by decide) ?_
  refine aw_icmp_eq 42 dX12_lean_25 (by decide) ?_ ?_
  · exact c12_lean_p42 σ x1 x2 x3
  · refine aw_aload_n 0 dX12_lean_28 rfl rfl ?_
    refine aw_iload_n 2 dX12_lean_29 rfl rfl ?_
    refine aw_callVO_B (c12_isPeaAt σ x2) (io_12 (by decide)) ci_12 (by decide) mk_12_isPeaAt w_1933 w_102 w_1931 rfl rfl (Nat.le_of_ble_eq_true rfl) dX12_lean_30 (fun v_14 => ?_)
    refine aw_bif_ne 42 dX12_lean_33 (by decide) ?_ ?_
    · exact c12_lean_p42 σ x1 x2 x3
    · refine aw_aload_n 0 dX12_lean_36 rfl rfl ?_
      refine aw_iconst 2 dX12_lean_37 (by decide) ?_
      refine aw_callVW_B (c12_no σ 2) (io_12 (by decide)) ci_12 (by decide) mk_12_no w_1660 w_49 w_1658 rfl rfl (Nat.le_of_ble_eq_true rfl) dX12_lean_38 (fun v_15 s_16 => ?_)
      exact aw_zreturn (b := v_15) rfl rfl dX12_lean_41
def F12_lean (σ : Mem) (x1 : Int32) (x2 : Int32) (x3 : Int32) : Option (Bool × Mem) :=
  bnd (sI σ 12 0 0 1 0) fun s_1 => bnd (sI s_1 12 0 0 0 0) fun s_2 => if x1 = (-1) then (F12_lean_p23 s_2 x1 x2 x3) else ((F12_isShooterAt s_2 x1).bind fun v_17 => if v_17 = true then (F12_lean_p23 s_2 x1 x2 x3) else (bd (F12_no s_2 2) fun v_18 s_19 => some (v_18, s_19)))
set_option maxRecDepth 20000 in
theorem c12_lean {l : Launch} {D : va_G} {ad : Nat → Nat → Nat → Nat} {cid : Nat → Nat → Nat → ClassId} (σ : Mem) (x1 : Int32) (x2 : Int32) (x3 : Int32) : AMF (XM l D ad cid) M12_lean 3 eB [.ref (ad 12 0 0), .int x1, .int x2, .int x3] σ (F12_lean σ x1 x2 x3) := by
  refine AM.ofW (by decide +kernel) (Nat.le_of_ble_eq_true rfl) (ls := [(0, .ref (ad 12 0 0)), (1, .int x1), (2, .int x2), (3, .int x3)]) rfl ?_
  refine aw_entry ?_
  unfold F12_lean
  refine aw_aload_n 0 dX12_lean_0 rfl rfl ?_
  refine aw_iconst 0 dX12_lean_1 (by decide) ?_
  refine aw_putI (fs_12_1 (by decide)) ci_12 (by decide) rfl rfl w_1459 dX12_lean_2 ?_
  refine aw_bndM (fun s_1 => ?_)
  refine aw_aload_n 0 dX12_lean_5 rfl rfl ?_
  refine aw_iconst 0 dX12_lean_6 (by decide) ?_
  refine aw_putI (fs_12_0 (by decide)) ci_12 (by decide) rfl rfl w_1458 dX12_lean_7 ?_
  refine aw_bndM (fun s_2 => ?_)
  refine aw_iload_n 1 dX12_lean_10 rfl rfl ?_
  refine aw_iconst (-1) dX12_lean_11 (by decide) ?_
  refine aw_icmp_eq 23 dX12_lean_12 (by decide) ?_ ?_
  · exact c12_lean_p23 s_2 x1 x2 x3
  · refine aw_aload_n 0 dX12_lean_15 rfl rfl ?_
    refine aw_iload_n 1 dX12_lean_16 rfl rfl ?_
    refine aw_callVO_B (c12_isShooterAt s_2 x1) (io_12 (by decide)) ci_12 (by decide) mk_12_isShooterAt w_1945 w_104 w_1943 rfl rfl (Nat.le_of_ble_eq_true rfl) dX12_lean_17 (fun v_17 => ?_)
    refine aw_bif_eq 36 dX12_lean_20 (by decide) ?_ ?_
    · refine aw_aload_n 0 dX12_lean_36 rfl rfl ?_
      refine aw_iconst 2 dX12_lean_37 (by decide) ?_
      refine aw_callVW_B (c12_no s_2 2) (io_12 (by decide)) ci_12 (by decide) mk_12_no w_1660 w_49 w_1658 rfl rfl (Nat.le_of_ble_eq_true rfl) dX12_lean_38 (fun v_18 s_19 => ?_)
      exact aw_zreturn (b := v_18) rfl rfl dX12_lean_41
    · exact c12_lean_p23 s_2 x1 x2 x3
def F12_whose_L55 (x1 : Int32) (x2 : Int32) : Nat → Mem → Int32 → Int64 → Int64 → Int32 → Option ((Int32) × Mem)
  | 0 => fun _ _ _ _ _ => none
  | n + 1 => fun σ x3 y4 y6 x8 =>
    (ald 3000 (gI σ 12 0 5) 6).bind fun v_5 => if v_5 ≤ x8 then (some (x3, σ)) else (bd (F12_sumHoles σ x8 (-1)) fun _ s_6 => if (gL s_6 12 0 0 42) = 0 then ((F12_whose_L55 x1 x2 n) s_6 x3 y4 y6 (x8 + 1)) else (bnd (((gL s_6 12 0 0 42) * (Int32.toInt64 x1)) - (gL s_6 12 0 0 43)) fun v_7 => bnd (((gL s_6 12 0 0 42) * (Int32.toInt64 x2)) - (gL s_6 12 0 0 44)) fun v_8 => bnd ((v_7 * v_7) + (v_8 * v_8)) fun v_9 => if x3 < 0 then (bnd ((gL s_6 12 0 0 42) * (gL s_6 12 0 0 42)) fun v_10 => (F12_whose_L55 x1 x2 n) s_6 x8 v_9 v_10 (x8 + 1)) else (if (v_9 * y6) < ((y4 * (gL s_6 12 0 0 42)) * (gL s_6 12 0 0 42)) then (bnd ((gL s_6 12 0 0 42) * (gL s_6 12 0 0 42)) fun v_11 => (F12_whose_L55 x1 x2 n) s_6 x8 v_9 v_11 (x8 + 1)) else ((F12_whose_L55 x1 x2 n) s_6 x3 y4 y6 (x8 + 1)))))
set_option maxRecDepth 20000 in
theorem c12_whose_L55 {l : Launch} {D : va_G} {ad : Nat → Nat → Nat → Nat} {cid : Nat → Nat → Nat → ClassId} {α : Type} {emb : α → Option Value} (x1 : Int32) (x2 : Int32) {G : Int32 → Mem → Option (α × Mem)} (kx : ∀ r σ, AW (XM l D ad cid) M12_whose 3 emb [(0, .ref (ad 12 0 0)), (3, .int r)] 179 [] σ (G r σ)) : ∀ (n : Nat) (σ : Mem) (x3 : Int32) (y4 : Int64) (y6 : Int64) (x8 : Int32), AW (XM l D ad cid) M12_whose 3 emb [(0, .ref (ad 12 0 0)), (1, .int x1), (2, .int x2), (3, .int x3), (4, .long y4), (6, .long y6), (8, .int x8)] 55 [] σ (bd (F12_whose_L55 x1 x2 n σ x3 y4 y6 x8) G) := by
  intro n
  induction n with
  | zero => intros; exact aw_none
  | succ n ih =>
    intro σ x3 y4 y6 x8
    refine aw_bdB ?_
    rw [F12_whose_L55.eq_2]
    refine aw_iload 6 dX12_whose_55 rfl ?_
    refine aw_aload_n 0 dX12_whose_57 rfl rfl ?_
    refine aw_getf (fg_12_20 (by decide)) ci_12 (by decide) w_1478 dX12_whose_58 ?_
    refine aw_bipush 6 dX12_whose_61 (by decide) ?_
    refine aw_iaload (ar_12_5 (by decide)) dX12_whose_63 (fun v_5 => ?_)
    refine aw_icmp_ge 179 dX12_whose_64 (by decide) ?_ ?_
    · refine aw_ls (ls' := [(0, .ref (ad 12 0 0)), (3, .int x3)]) [0, 3] rfl ?_
      exact kx x3 σ
    · refine aw_aload_n 0 dX12_whose_67 rfl rfl ?_
      refine aw_iload 6 dX12_whose_68 rfl ?_
      refine aw_iconst (-1) dX12_whose_70 (by decide) ?_
      refine aw_callVW_U (c12_sumHoles σ x8 (-1)) (io_12 (by decide)) ci_12 (by decide) mk_12_sumHoles w_2146 w_127 w_2144 rfl rfl (Nat.le_of_ble_eq_true rfl) dX12_whose_71 (fun _ s_6 => ?_)
      refine aw_aload_n 0 dX12_whose_74 rfl rfl ?_
      refine aw_getf (fg_12_42 (by decide)) ci_12 (by decide) w_1500 dX12_whose_75 ?_
      refine aw_lconst 0 dX12_whose_78 (by decide) ?_
      refine aw_lcmp dX12_whose_79 ?_
      refine aw_lif_ne 86 dX12_whose_80 (by decide) ?_ ?_
      · refine aw_aload_n 0 dX12_whose_86 rfl rfl ?_
        refine aw_getf (fg_12_42 (by decide)) ci_12 (by decide) w_1500 dX12_whose_87 ?_
        refine aw_iload_n 1 dX12_whose_90 rfl rfl ?_
        refine aw_i2l dX12_whose_91 ?_
        refine aw_lmul dX12_whose_92 ?_
        refine aw_aload_n 0 dX12_whose_93 rfl rfl ?_
        refine aw_getf (fg_12_43 (by decide)) ci_12 (by decide) w_1501 dX12_whose_94 ?_
        refine aw_lsub dX12_whose_97 ?_
        refine aw_bnd_long (fun v_7 => ?_)
        refine aw_lstore (ls' := [(0, .ref (ad 12 0 0)), (1, .int x1), (2, .int x2), (3, .int x3), (4, .long y4), (6, .long y6), (8, .int x8), (9, .long v_7)]) [1, 2, 3, 4, 5, 6, 7, 0] dX12_whose_98 (by decide) rfl ?_
        refine aw_aload_n 0 dX12_whose_100 rfl rfl ?_
        refine aw_getf (fg_12_42 (by decide)) ci_12 (by decide) w_1500 dX12_whose_101 ?_
        refine aw_iload_n 2 dX12_whose_104 rfl rfl ?_
        refine aw_i2l dX12_whose_105 ?_
        refine aw_lmul dX12_whose_106 ?_
        refine aw_aload_n 0 dX12_whose_107 rfl rfl ?_
        refine aw_getf (fg_12_44 (by decide)) ci_12 (by decide) w_1502 dX12_whose_108 ?_
        refine aw_lsub dX12_whose_111 ?_
        refine aw_bnd_long (fun v_8 => ?_)
        refine aw_lstore (ls' := [(0, .ref (ad 12 0 0)), (1, .int x1), (2, .int x2), (3, .int x3), (4, .long y4), (6, .long y6), (8, .int x8), (9, .long v_7), (11, .long v_8)]) [1, 2, 3, 4, 5, 6, 7, 8, 0] dX12_whose_112 (by decide) rfl ?_
        refine aw_lload 7 dX12_whose_114 rfl ?_
        refine aw_lload 7 dX12_whose_116 rfl ?_
        refine aw_lmul dX12_whose_118 ?_
        refine aw_lload 8 dX12_whose_119 rfl ?_
        refine aw_lload 8 dX12_whose_121 rfl ?_
        refine aw_lmul dX12_whose_123 ?_
        refine aw_ladd dX12_whose_124 ?_
        refine aw_bnd_long (fun v_9 => ?_)
        refine aw_lstore (ls' := [(0, .ref (ad 12 0 0)), (1, .int x1), (2, .int x2), (3, .int x3), (4, .long y4), (6, .long y6), (8, .int x8), (13, .long v_9)]) [1, 2, 3, 4, 5, 6, 7, 0] dX12_whose_125 (by decide) rfl ?_
        refine aw_iload_n 3 dX12_whose_127 rfl rfl ?_
        refine aw_if_lt 155 dX12_whose_128 (by decide) ?_ ?_
        · refine aw_iload 6 dX12_whose_155 rfl ?_
          refine aw_istore_n (ls' := [(0, .ref (ad 12 0 0)), (1, .int x1), (2, .int x2), (3, .int x8), (8, .int x8), (13, .long v_9)]) [1, 2, 3, 0, 6, 7] dX12_whose_157 rfl (by decide) rfl ?_
          refine aw_lload 5 dX12_whose_158 rfl ?_
          refine aw_lstore (ls' := [(0, .ref (ad 12 0 0)), (1, .int x1), (2, .int x2), (3, .int x8), (4, .long v_9), (8, .int x8)]) [1, 2, 3, 4, 0, 5] dX12_whose_160 (by decide) rfl ?_
          refine aw_aload_n 0 dX12_whose_162 rfl rfl ?_
          refine aw_getf (fg_12_42 (by decide)) ci_12 (by decide) w_1500 dX12_whose_163 ?_
          refine aw_aload_n 0 dX12_whose_166 rfl rfl ?_
          refine aw_getf (fg_12_42 (by decide)) ci_12 (by decide) w_1500 dX12_whose_167 ?_
          refine aw_lmul dX12_whose_170 ?_
          refine aw_bnd_long (fun v_10 => ?_)
          refine aw_lstore (ls' := [(0, .ref (ad 12 0 0)), (1, .int x1), (2, .int x2), (3, .int x8), (4, .long v_9), (6, .long v_10), (8, .int x8)]) [1, 2, 3, 4, 5, 0, 6] dX12_whose_171 (by decide) rfl ?_
          refine aw_iinc (ls' := [(0, .ref (ad 12 0 0)), (1, .int x1), (2, .int x2), (3, .int x8), (4, .long v_9), (6, .long v_10), (8, .int (x8 + 1))]) (x8 + 1) 6 [1, 2, 3, 4, 5, 6, 0] dX12_whose_173 rfl (by rfl) (by decide) rfl ?_
          refine aw_goto 55 dX12_whose_176 (by decide) ?_
          exact ih s_6 x8 v_9 v_10 (x8 + 1)
        · refine aw_lload 7 dX12_whose_131 rfl ?_
          refine aw_lload 5 dX12_whose_133 rfl ?_
          refine aw_lmul dX12_whose_135 ?_
          refine aw_lload 4 dX12_whose_136 rfl ?_
          refine aw_aload_n 0 dX12_whose_138 rfl rfl ?_
          refine aw_getf (fg_12_42 (by decide)) ci_12 (by decide) w_1500 dX12_whose_139 ?_
          refine aw_lmul dX12_whose_142 ?_
          refine aw_aload_n 0 dX12_whose_143 rfl rfl ?_
          refine aw_getf (fg_12_42 (by decide)) ci_12 (by decide) w_1500 dX12_whose_144 ?_
          refine aw_lmul dX12_whose_147 ?_
          refine aw_lcmp dX12_whose_148 ?_
          refine aw_lif_lt 155 dX12_whose_149 (by decide) ?_ ?_
          · refine aw_iload 6 dX12_whose_155 rfl ?_
            refine aw_istore_n (ls' := [(0, .ref (ad 12 0 0)), (1, .int x1), (2, .int x2), (3, .int x8), (8, .int x8), (13, .long v_9)]) [1, 2, 3, 0, 6, 7] dX12_whose_157 rfl (by decide) rfl ?_
            refine aw_lload 5 dX12_whose_158 rfl ?_
            refine aw_lstore (ls' := [(0, .ref (ad 12 0 0)), (1, .int x1), (2, .int x2), (3, .int x8), (4, .long v_9), (8, .int x8)]) [1, 2, 3, 4, 0, 5] dX12_whose_160 (by decide) rfl ?_
            refine aw_aload_n 0 dX12_whose_162 rfl rfl ?_
            refine aw_getf (fg_12_42 (by decide)) ci_12 (by decide) w_1500 dX12_whose_163 ?_
            refine aw_aload_n 0 dX12_whose_166 rfl rfl ?_
            refine aw_getf (fg_12_42 (by decide)) ci_12 (by decide) w_1500 dX12_whose_167 ?_
            refine aw_lmul dX12_whose_170 ?_
            refine aw_bnd_long (fun v_11 => ?_)
            refine aw_lstore (ls' := [(0, .ref (ad 12 0 0)), (1, .int x1), (2, .int x2), (3, .int x8), (4, .long v_9), (6, .long v_11), (8, .int x8)]) [1, 2, 3, 4, 5, 0, 6] dX12_whose_171 (by decide) rfl ?_
            refine aw_iinc (ls' := [(0, .ref (ad 12 0 0)), (1, .int x1), (2, .int x2), (3, .int x8), (4, .long v_9), (6, .long v_11), (8, .int (x8 + 1))]) (x8 + 1) 6 [1, 2, 3, 4, 5, 6, 0] dX12_whose_173 rfl (by rfl) (by decide) rfl ?_
            refine aw_goto 55 dX12_whose_176 (by decide) ?_
            exact ih s_6 x8 v_9 v_11 (x8 + 1)
          · refine aw_goto 173 dX12_whose_152 (by decide) ?_
            refine aw_iinc (ls' := [(0, .ref (ad 12 0 0)), (1, .int x1), (2, .int x2), (3, .int x3), (4, .long y4), (6, .long y6), (8, .int (x8 + 1))]) (x8 + 1) 6 [1, 2, 3, 4, 5, 6, 0] dX12_whose_173 rfl (by rfl) (by decide) rfl ?_
            refine aw_goto 55 dX12_whose_176 (by decide) ?_
            exact ih s_6 x3 y4 y6 (x8 + 1)
      · refine aw_goto 173 dX12_whose_83 (by decide) ?_
        refine aw_iinc (ls' := [(0, .ref (ad 12 0 0)), (1, .int x1), (2, .int x2), (3, .int x3), (4, .long y4), (6, .long y6), (8, .int (x8 + 1))]) (x8 + 1) 6 [1, 2, 3, 4, 5, 6, 0] dX12_whose_173 rfl (by rfl) (by decide) rfl ?_
        refine aw_goto 55 dX12_whose_176 (by decide) ?_
        exact ih s_6 x3 y4 y6 (x8 + 1)
def F12_whose (σ : Mem) (x1 : Int32) (x2 : Int32) : Option (Int32 × Mem) :=
  bnd (sI σ 12 0 0 1 0) fun s_1 => bnd (sI s_1 12 0 0 0 0) fun s_2 => if (F12_isIn (Int32.toInt64 x1) (-99) 99) = true then (if (F12_isIn (Int32.toInt64 x2) (-99) 99) = true then (bd (F12_whose_L55 x1 x2 fuelK s_2 (-1) 0 1 0) fun r_12 s_13 => if 0 ≤ r_12 then (some (r_12, s_13)) else (bd (F12_refuse s_13 8) fun v_14 s_15 => some (v_14, s_15))) else (bd (F12_refuse s_2 5) fun v_16 s_17 => some (v_16, s_17))) else (bd (F12_refuse s_2 5) fun v_3 s_4 => some (v_3, s_4))
set_option maxRecDepth 20000 in
theorem c12_whose {l : Launch} {D : va_G} {ad : Nat → Nat → Nat → Nat} {cid : Nat → Nat → Nat → ClassId} (σ : Mem) (x1 : Int32) (x2 : Int32) : AMF (XM l D ad cid) M12_whose 3 eI [.ref (ad 12 0 0), .int x1, .int x2] σ (F12_whose σ x1 x2) := by
  refine AM.ofW (by decide +kernel) (Nat.le_of_ble_eq_true rfl) (ls := [(0, .ref (ad 12 0 0)), (1, .int x1), (2, .int x2)]) rfl ?_
  refine aw_entry ?_
  unfold F12_whose
  refine aw_aload_n 0 dX12_whose_0 rfl rfl ?_
  refine aw_iconst 0 dX12_whose_1 (by decide) ?_
  refine aw_putI (fs_12_1 (by decide)) ci_12 (by decide) rfl rfl w_1459 dX12_whose_2 ?_
  refine aw_bndM (fun s_1 => ?_)
  refine aw_aload_n 0 dX12_whose_5 rfl rfl ?_
  refine aw_iconst 0 dX12_whose_6 (by decide) ?_
  refine aw_putI (fs_12_0 (by decide)) ci_12 (by decide) rfl rfl w_1458 dX12_whose_7 ?_
  refine aw_bndM (fun s_2 => ?_)
  refine aw_iload_n 1 dX12_whose_10 rfl rfl ?_
  refine aw_i2l dX12_whose_11 ?_
  refine aw_ldc2 w_2156 dX12_whose_12 ?_
  refine aw_ldc2 w_2100 dX12_whose_15 ?_
  refine aw_callST_B (c12_isIn s_2 (Int32.toInt64 x1) (-99) 99) (by decide) mk_12_isIn w_1754 w_1753 rfl rfl (Nat.le_of_ble_eq_true rfl) dX12_whose_18 ?_
  refine aw_bif_eq 38 dX12_whose_21 (by decide) ?_ ?_
  · refine aw_aload_n 0 dX12_whose_38 rfl rfl ?_
    refine aw_iconst 5 dX12_whose_39 (by decide) ?_
    refine aw_callVW_I (c12_refuse s_2 5) (io_12 (by decide)) ci_12 (by decide) mk_12_refuse w_1921 w_101 w_1919 rfl rfl (Nat.le_of_ble_eq_true rfl) dX12_whose_40 (fun v_3 s_4 => ?_)
    exact aw_ireturn rfl dX12_whose_43
  · refine aw_iload_n 2 dX12_whose_24 rfl rfl ?_
    refine aw_i2l dX12_whose_25 ?_
    refine aw_ldc2 w_2156 dX12_whose_26 ?_
    refine aw_ldc2 w_2100 dX12_whose_29 ?_
    refine aw_callST_B (c12_isIn s_2 (Int32.toInt64 x2) (-99) 99) (by decide) mk_12_isIn w_1754 w_1753 rfl rfl (Nat.le_of_ble_eq_true rfl) dX12_whose_32 ?_
    refine aw_bif_ne 44 dX12_whose_35 (by decide) ?_ ?_
    · refine aw_iconst (-1) dX12_whose_44 (by decide) ?_
      refine aw_istore_n (ls' := [(0, .ref (ad 12 0 0)), (1, .int x1), (2, .int x2), (3, .int (-1))]) [1, 2, 3, 0] dX12_whose_45 rfl (by decide) rfl ?_
      refine aw_lconst 0 dX12_whose_46 (by decide) ?_
      refine aw_lstore (ls' := [(0, .ref (ad 12 0 0)), (1, .int x1), (2, .int x2), (3, .int (-1)), (4, .long 0)]) [1, 2, 3, 4, 0] dX12_whose_47 (by decide) rfl ?_
      refine aw_lconst 1 dX12_whose_49 (by decide) ?_
      refine aw_lstore (ls' := [(0, .ref (ad 12 0 0)), (1, .int x1), (2, .int x2), (3, .int (-1)), (4, .long 0), (6, .long 1)]) [1, 2, 3, 4, 5, 0] dX12_whose_50 (by decide) rfl ?_
      refine aw_iconst 0 dX12_whose_52 (by decide) ?_
      refine aw_istore (ls' := [(0, .ref (ad 12 0 0)), (1, .int x1), (2, .int x2), (3, .int (-1)), (4, .long 0), (6, .long 1), (8, .int 0)]) [1, 2, 3, 4, 5, 6, 0] dX12_whose_53 (by decide) rfl ?_
      refine aw_assocW ?_
      refine c12_whose_L55 x1 x2 (fun r_12 s_13 => ?_) fuelK s_2 (-1) 0 1 0
      refine aw_iload_n 1 dX12_whose_179 rfl rfl ?_
      refine aw_if_ge 192 dX12_whose_180 (by decide) ?_ ?_
      · refine aw_iload_n 1 dX12_whose_192 rfl rfl ?_
        exact aw_ireturn rfl dX12_whose_193
      · refine aw_aload_n 0 dX12_whose_183 rfl rfl ?_
        refine aw_bipush 8 dX12_whose_184 (by decide) ?_
        refine aw_callVW_I (c12_refuse s_13 8) (io_12 (by decide)) ci_12 (by decide) mk_12_refuse w_1921 w_101 w_1919 rfl rfl (Nat.le_of_ble_eq_true rfl) dX12_whose_186 (fun v_14 s_15 => ?_)
        refine aw_goto 193 dX12_whose_189 (by decide) ?_
        exact aw_ireturn rfl dX12_whose_193
    · refine aw_aload_n 0 dX12_whose_38 rfl rfl ?_
      refine aw_iconst 5 dX12_whose_39 (by decide) ?_
      refine aw_callVW_I (c12_refuse s_2 5) (io_12 (by decide)) ci_12 (by decide) mk_12_refuse w_1921 w_101 w_1919 rfl rfl (Nat.le_of_ble_eq_true rfl) dX12_whose_40 (fun v_16 s_17 => ?_)
      exact aw_ireturn rfl dX12_whose_43
def F12_worst_p82 (rc : Mem → Int32 → Int64 → Int64 → Int32 → Option ((Int32) × Mem)) (σ : Mem) (x1 : Int32) (x2 : Int32) (y3 : Int64) (y5 : Int64) (x7 : Int32) (q1 : Int32) (q2 : Int32) : Option ((Int32) × Mem) :=
  bd (F12_sumHoles σ q1 q2) fun _ s_4 => if (gL s_4 12 0 0 42) = 0 then (rc s_4 x2 y3 y5 (x7 + 1)) else (if x2 < 0 then (bnd (F12_spread s_4) fun v_5 => bnd ((gL s_4 12 0 0 42) * (gL s_4 12 0 0 42)) fun v_6 => rc s_4 x7 v_5 v_6 (x7 + 1)) else (if ((y3 * (gL s_4 12 0 0 42)) * (gL s_4 12 0 0 42)) < ((F12_spread s_4) * y5) then (bnd (F12_spread s_4) fun v_7 => bnd ((gL s_4 12 0 0 42) * (gL s_4 12 0 0 42)) fun v_8 => rc s_4 x7 v_7 v_8 (x7 + 1)) else (rc s_4 x2 y3 y5 (x7 + 1))))
set_option maxRecDepth 20000 in
theorem c12_worst_p82 {l : Launch} {D : va_G} {ad : Nat → Nat → Nat → Nat} {cid : Nat → Nat → Nat → ClassId} {α : Type} {emb : α → Option Value}  (x1 : Int32) {G : Int32 → Mem → Option (α × Mem)} (kx : ∀ r σ, AW (XM l D ad cid) M12_worst 3 emb [(0, .ref (ad 12 0 0)), (2, .int r)] 148 [] σ (G r σ)) {rc : Mem → Int32 → Int64 → Int64 → Int32 → Option ((Int32) × Mem)} (ih : ∀ (σ : Mem) (x2 : Int32) (y3 : Int64) (y5 : Int64) (x7 : Int32), AW (XM l D ad cid) M12_worst 3 emb [(0, .ref (ad 12 0 0)), (1, .int x1), (2, .int x2), (3, .long y3), (5, .long y5), (7, .int x7)] 36 [] σ (bd (rc σ x2 y3 y5 x7) G)) (σ : Mem) (x2 : Int32) (y3 : Int64) (y5 : Int64) (x7 : Int32) (q1 : Int32) (q2 : Int32) : AW (XM l D ad cid) M12_worst 3 emb [(0, .ref (ad 12 0 0)), (1, .int x1), (2, .int x2), (3, .long y3), (5, .long y5), (7, .int x7)] 82 [.int q2, .int q1, .ref (ad 12 0 0)] σ ((F12_worst_p82 rc σ x1 x2 y3 y5 x7 q1 q2).bind (fun q => G q.1 q.2)) := by
  unfold F12_worst_p82
  refine aw_callVW_U (c12_sumHoles σ q1 q2) (io_12 (by decide)) ci_12 (by decide) mk_12_sumHoles w_2146 w_127 w_2144 rfl rfl (Nat.le_of_ble_eq_true rfl) dX12_worst_82 (fun _ s_4 => ?_)
  refine aw_aload_n 0 dX12_worst_85 rfl rfl ?_
  refine aw_getf (fg_12_42 (by decide)) ci_12 (by decide) w_1500 dX12_worst_86 ?_
  refine aw_lconst 0 dX12_worst_89 (by decide) ?_
  refine aw_lcmp dX12_worst_90 ?_
  refine aw_lif_eq 142 dX12_worst_91 (by decide) ?_ ?_
  · refine aw_iinc (ls' := [(0, .ref (ad 12 0 0)), (1, .int x1), (2, .int x2), (3, .long y3), (5, .long y5), (7, .int (x7 + 1))]) (x7 + 1) 5 [1, 2, 3, 4, 5, 0] dX12_worst_142 rfl (by rfl) (by decide) rfl ?_
    refine aw_goto 36 dX12_worst_145 (by decide) ?_
    exact ih s_4 x2 y3 y5 (x7 + 1)
  · refine aw_iload_n 2 dX12_worst_94 rfl rfl ?_
    refine aw_if_lt 123 dX12_worst_95 (by decide) ?_ ?_
    · refine aw_iload 5 dX12_worst_123 rfl ?_
      refine aw_istore_n (ls' := [(0, .ref (ad 12 0 0)), (1, .int x1), (2, .int x7), (7, .int x7)]) [1, 2, 0, 5] dX12_worst_125 rfl (by decide) rfl ?_
      refine aw_aload_n 0 dX12_worst_126 rfl rfl ?_
      refine aw_callVT_L (c12_spread s_4 ) (io_12 (by decide)) ci_12 (by decide) mk_12_spread w_2150 w_128 w_2148 rfl rfl (Nat.le_of_ble_eq_true rfl) dX12_worst_127 ?_
      refine aw_bnd_long (fun v_5 => ?_)
      refine aw_lstore_n (ls' := [(0, .ref (ad 12 0 0)), (1, .int x1), (2, .int x7), (3, .long v_5), (7, .int x7)]) [1, 2, 3, 0, 4] dX12_worst_130 rfl (by decide) rfl ?_
      refine aw_aload_n 0 dX12_worst_131 rfl rfl ?_
      refine aw_getf (fg_12_42 (by decide)) ci_12 (by decide) w_1500 dX12_worst_132 ?_
      refine aw_aload_n 0 dX12_worst_135 rfl rfl ?_
      refine aw_getf (fg_12_42 (by decide)) ci_12 (by decide) w_1500 dX12_worst_136 ?_
      refine aw_lmul dX12_worst_139 ?_
      refine aw_bnd_long (fun v_6 => ?_)
      refine aw_lstore (ls' := [(0, .ref (ad 12 0 0)), (1, .int x1), (2, .int x7), (3, .long v_5), (5, .long v_6), (7, .int x7)]) [1, 2, 3, 4, 0, 5] dX12_worst_140 (by decide) rfl ?_
      refine aw_iinc (ls' := [(0, .ref (ad 12 0 0)), (1, .int x1), (2, .int x7), (3, .long v_5), (5, .long v_6), (7, .int (x7 + 1))]) (x7 + 1) 5 [1, 2, 3, 4, 5, 0] dX12_worst_142 rfl (by rfl) (by decide) rfl ?_
      refine aw_goto 36 dX12_worst_145 (by decide) ?_
      exact ih s_4 x7 v_5 v_6 (x7 + 1)
    · refine aw_aload_n 0 dX12_worst_98 rfl rfl ?_
      refine aw_callVT_L (c12_spread s_4 ) (io_12 (by decide)) ci_12 (by decide) mk_12_spread w_2150 w_128 w_2148 rfl rfl (Nat.le_of_ble_eq_true rfl) dX12_worst_99 ?_
      refine aw_lload 4 dX12_worst_102 rfl ?_
      refine aw_lmul dX12_worst_104 ?_
      refine aw_lload_n 3 dX12_worst_105 rfl rfl ?_
      refine aw_aload_n 0 dX12_worst_106 rfl rfl ?_
      refine aw_getf (fg_12_42 (by decide)) ci_12 (by decide) w_1500 dX12_worst_107 ?_
      refine aw_lmul dX12_worst_110 ?_
      refine aw_aload_n 0 dX12_worst_111 rfl rfl ?_
      refine aw_getf (fg_12_42 (by decide)) ci_12 (by decide) w_1500 dX12_worst_112 ?_
      refine aw_lmul dX12_worst_115 ?_
      refine aw_lcmp dX12_worst_116 ?_
      refine aw_lif_gt 123 dX12_worst_117 (by decide) ?_ ?_
      · refine aw_iload 5 dX12_worst_123 rfl ?_
        refine aw_istore_n (ls' := [(0, .ref (ad 12 0 0)), (1, .int x1), (2, .int x7), (7, .int x7)]) [1, 2, 0, 5] dX12_worst_125 rfl (by decide) rfl ?_
        refine aw_aload_n 0 dX12_worst_126 rfl rfl ?_
        refine aw_callVT_L (c12_spread s_4 ) (io_12 (by decide)) ci_12 (by decide) mk_12_spread w_2150 w_128 w_2148 rfl rfl (Nat.le_of_ble_eq_true rfl) dX12_worst_127 ?_
        refine aw_bnd_long (fun v_7 => ?_)
        refine aw_lstore_n (ls' := [(0, .ref (ad 12 0 0)), (1, .int x1), (2, .int x7), (3, .long v_7), (7, .int x7)]) [1, 2, 3, 0, 4] dX12_worst_130 rfl (by decide) rfl ?_
        refine aw_aload_n 0 dX12_worst_131 rfl rfl ?_
        refine aw_getf (fg_12_42 (by decide)) ci_12 (by decide) w_1500 dX12_worst_132 ?_
        refine aw_aload_n 0 dX12_worst_135 rfl rfl ?_
        refine aw_getf (fg_12_42 (by decide)) ci_12 (by decide) w_1500 dX12_worst_136 ?_
        refine aw_lmul dX12_worst_139 ?_
        refine aw_bnd_long (fun v_8 => ?_)
        refine aw_lstore (ls' := [(0, .ref (ad 12 0 0)), (1, .int x1), (2, .int x7), (3, .long v_7), (5, .long v_8), (7, .int x7)]) [1, 2, 3, 4, 0, 5] dX12_worst_140 (by decide) rfl ?_
        refine aw_iinc (ls' := [(0, .ref (ad 12 0 0)), (1, .int x1), (2, .int x7), (3, .long v_7), (5, .long v_8), (7, .int (x7 + 1))]) (x7 + 1) 5 [1, 2, 3, 4, 5, 0] dX12_worst_142 rfl (by rfl) (by decide) rfl ?_
        refine aw_goto 36 dX12_worst_145 (by decide) ?_
        exact ih s_4 x7 v_7 v_8 (x7 + 1)
      · refine aw_goto 142 dX12_worst_120 (by decide) ?_
        refine aw_iinc (ls' := [(0, .ref (ad 12 0 0)), (1, .int x1), (2, .int x2), (3, .long y3), (5, .long y5), (7, .int (x7 + 1))]) (x7 + 1) 5 [1, 2, 3, 4, 5, 0] dX12_worst_142 rfl (by rfl) (by decide) rfl ?_
        refine aw_goto 36 dX12_worst_145 (by decide) ?_
        exact ih s_4 x2 y3 y5 (x7 + 1)
def F12_worst_p72 (rc : Mem → Int32 → Int64 → Int64 → Int32 → Option ((Int32) × Mem)) (σ : Mem) (x1 : Int32) (x2 : Int32) (y3 : Int64) (y5 : Int64) (x7 : Int32) (q1 : Int32) : Option ((Int32) × Mem) :=
  if x1 = 0 then (F12_worst_p82 rc σ x1 x2 y3 y5 x7 q1 (-1)) else (F12_worst_p82 rc σ x1 x2 y3 y5 x7 q1 x7)
set_option maxRecDepth 20000 in
theorem c12_worst_p72 {l : Launch} {D : va_G} {ad : Nat → Nat → Nat → Nat} {cid : Nat → Nat → Nat → ClassId} {α : Type} {emb : α → Option Value}  (x1 : Int32) {G : Int32 → Mem → Option (α × Mem)} (kx : ∀ r σ, AW (XM l D ad cid) M12_worst 3 emb [(0, .ref (ad 12 0 0)), (2, .int r)] 148 [] σ (G r σ)) {rc : Mem → Int32 → Int64 → Int64 → Int32 → Option ((Int32) × Mem)} (ih : ∀ (σ : Mem) (x2 : Int32) (y3 : Int64) (y5 : Int64) (x7 : Int32), AW (XM l D ad cid) M12_worst 3 emb [(0, .ref (ad 12 0 0)), (1, .int x1), (2, .int x2), (3, .long y3), (5, .long y5), (7, .int x7)] 36 [] σ (bd (rc σ x2 y3 y5 x7) G)) (σ : Mem) (x2 : Int32) (y3 : Int64) (y5 : Int64) (x7 : Int32) (q1 : Int32) : AW (XM l D ad cid) M12_worst 3 emb [(0, .ref (ad 12 0 0)), (1, .int x1), (2, .int x2), (3, .long y3), (5, .long y5), (7, .int x7)] 72 [.int q1, .ref (ad 12 0 0)] σ ((F12_worst_p72 rc σ x1 x2 y3 y5 x7 q1).bind (fun q => G q.1 q.2)) := by
  unfold F12_worst_p72
  refine aw_iload_n 1 dX12_worst_72 rfl rfl ?_
  refine aw_if_ne 80 dX12_worst_73 (by decide) ?_ ?_
  · refine aw_iload 5 dX12_worst_80 rfl ?_
    exact c12_worst_p82 x1 kx ih σ x2 y3 y5 x7 q1 x7
  · refine aw_iconst (-1) dX12_worst_76 (by decide) ?_
    refine aw_goto 82 dX12_worst_77 (by decide) ?_
    exact c12_worst_p82 x1 kx ih σ x2 y3 y5 x7 q1 (-1)
def F12_worst_p58 (rc : Mem → Int32 → Int64 → Int64 → Int32 → Option ((Int32) × Mem)) (σ : Mem) (x1 : Int32) (x2 : Int32) (y3 : Int64) (y5 : Int64) (x7 : Int32) (q0 : Int32) (q1 : Int32) : Option ((Int32) × Mem) :=
  if q1 ≤ q0 then (some (x2, σ)) else (if x1 = 0 then (F12_worst_p72 rc σ x1 x2 y3 y5 x7 x7) else (F12_worst_p72 rc σ x1 x2 y3 y5 x7 (-1)))
set_option maxRecDepth 20000 in
theorem c12_worst_p58 {l : Launch} {D : va_G} {ad : Nat → Nat → Nat → Nat} {cid : Nat → Nat → Nat → ClassId} {α : Type} {emb : α → Option Value}  (x1 : Int32) {G : Int32 → Mem → Option (α × Mem)} (kx : ∀ r σ, AW (XM l D ad cid) M12_worst 3 emb [(0, .ref (ad 12 0 0)), (2, .int r)] 148 [] σ (G r σ)) {rc : Mem → Int32 → Int64 → Int64 → Int32 → Option ((Int32) × Mem)} (ih : ∀ (σ : Mem) (x2 : Int32) (y3 : Int64) (y5 : Int64) (x7 : Int32), AW (XM l D ad cid) M12_worst 3 emb [(0, .ref (ad 12 0 0)), (1, .int x1), (2, .int x2), (3, .long y3), (5, .long y5), (7, .int x7)] 36 [] σ (bd (rc σ x2 y3 y5 x7) G)) (σ : Mem) (x2 : Int32) (y3 : Int64) (y5 : Int64) (x7 : Int32) (q0 : Int32) (q1 : Int32) : AW (XM l D ad cid) M12_worst 3 emb [(0, .ref (ad 12 0 0)), (1, .int x1), (2, .int x2), (3, .long y3), (5, .long y5), (7, .int x7)] 58 [.int q1, .int q0] σ ((F12_worst_p58 rc σ x1 x2 y3 y5 x7 q0 q1).bind (fun q => G q.1 q.2)) := by
  unfold F12_worst_p58
  refine aw_icmp_ge 148 dX12_worst_58 (by decide) ?_ ?_
  · refine aw_ls (ls' := [(0, .ref (ad 12 0 0)), (2, .int x2)]) [0, 2] rfl ?_
    exact kx x2 σ
  · refine aw_aload_n 0 dX12_worst_61 rfl rfl ?_
    refine aw_iload_n 1 dX12_worst_62 rfl rfl ?_
    refine aw_if_ne 71 dX12_worst_63 (by decide) ?_ ?_
    · refine aw_iconst (-1) dX12_worst_71 (by decide) ?_
      exact c12_worst_p72 x1 kx ih σ x2 y3 y5 x7 (-1)
    · refine aw_iload 5 dX12_worst_66 rfl ?_
      refine aw_goto 72 dX12_worst_68 (by decide) ?_
      exact c12_worst_p72 x1 kx ih σ x2 y3 y5 x7 x7
def F12_worst_L36 (x1 : Int32) : Nat → Mem → Int32 → Int64 → Int64 → Int32 → Option ((Int32) × Mem)
  | 0 => fun _ _ _ _ _ => none
  | n + 1 => fun σ x2 y3 y5 x7 =>
    if x1 = 0 then ((ald 3000 (gI σ 12 0 5) 6).bind fun v_9 => F12_worst_p58 (F12_worst_L36 x1 n) σ x1 x2 y3 y5 x7 x7 v_9) else ((ald 3000 (gI σ 12 0 5) 5).bind fun v_3 => F12_worst_p58 (F12_worst_L36 x1 n) σ x1 x2 y3 y5 x7 x7 v_3)
set_option maxRecDepth 20000 in
theorem c12_worst_L36 {l : Launch} {D : va_G} {ad : Nat → Nat → Nat → Nat} {cid : Nat → Nat → Nat → ClassId} {α : Type} {emb : α → Option Value} (x1 : Int32) {G : Int32 → Mem → Option (α × Mem)} (kx : ∀ r σ, AW (XM l D ad cid) M12_worst 3 emb [(0, .ref (ad 12 0 0)), (2, .int r)] 148 [] σ (G r σ)) : ∀ (n : Nat) (σ : Mem) (x2 : Int32) (y3 : Int64) (y5 : Int64) (x7 : Int32), AW (XM l D ad cid) M12_worst 3 emb [(0, .ref (ad 12 0 0)), (1, .int x1), (2, .int x2), (3, .long y3), (5, .long y5), (7, .int x7)] 36 [] σ (bd (F12_worst_L36 x1 n σ x2 y3 y5 x7) G) := by
  intro n
  induction n with
  | zero => intros; exact aw_none
  | succ n ih =>
    intro σ x2 y3 y5 x7
    refine aw_bdB ?_
    rw [F12_worst_L36.eq_2]
    refine aw_iload 5 dX12_worst_36 rfl ?_
    refine aw_iload_n 1 dX12_worst_38 rfl rfl ?_
    refine aw_if_ne 52 dX12_worst_39 (by decide) ?_ ?_
    · refine aw_aload_n 0 dX12_worst_52 rfl rfl ?_
      refine aw_getf (fg_12_20 (by decide)) ci_12 (by decide) w_1478 dX12_worst_53 ?_
      refine aw_iconst 5 dX12_worst_56 (by decide) ?_
      refine aw_iaload (ar_12_5 (by decide)) dX12_worst_57 (fun v_3 => ?_)
      exact c12_worst_p58 x1 kx ih σ x2 y3 y5 x7 x7 v_3
    · refine aw_aload_n 0 dX12_worst_42 rfl rfl ?_
      refine aw_getf (fg_12_20 (by decide)) ci_12 (by decide) w_1478 dX12_worst_43 ?_
      refine aw_bipush 6 dX12_worst_46 (by decide) ?_
      refine aw_iaload (ar_12_5 (by decide)) dX12_worst_48 (fun v_9 => ?_)
      refine aw_goto 58 dX12_worst_49 (by decide) ?_
      exact c12_worst_p58 x1 kx ih σ x2 y3 y5 x7 x7 v_9
def F12_worst (σ : Mem) (x1 : Int32) : Option (Int32 × Mem) :=
  bnd (sI σ 12 0 0 1 0) fun s_1 => bnd (sI s_1 12 0 0 0 0) fun s_2 => if (F12_isIn (Int32.toInt64 x1) 0 1) = true then (bd (F12_worst_L36 x1 fuelK s_2 (-1) 0 1 0) fun r_10 s_11 => if 0 ≤ r_10 then (some (r_10, s_11)) else (bd (F12_refuse s_11 8) fun v_12 s_13 => some (v_12, s_13))) else (bd (F12_refuse s_2 5) fun v_14 s_15 => some (v_14, s_15))
set_option maxRecDepth 20000 in
theorem c12_worst {l : Launch} {D : va_G} {ad : Nat → Nat → Nat → Nat} {cid : Nat → Nat → Nat → ClassId} (σ : Mem) (x1 : Int32) : AMF (XM l D ad cid) M12_worst 3 eI [.ref (ad 12 0 0), .int x1] σ (F12_worst σ x1) := by
  refine AM.ofW (by decide +kernel) (Nat.le_of_ble_eq_true rfl) (ls := [(0, .ref (ad 12 0 0)), (1, .int x1)]) rfl ?_
  refine aw_entry ?_
  unfold F12_worst
  refine aw_aload_n 0 dX12_worst_0 rfl rfl ?_
  refine aw_iconst 0 dX12_worst_1 (by decide) ?_
  refine aw_putI (fs_12_1 (by decide)) ci_12 (by decide) rfl rfl w_1459 dX12_worst_2 ?_
  refine aw_bndM (fun s_1 => ?_)
  refine aw_aload_n 0 dX12_worst_5 rfl rfl ?_
  refine aw_iconst 0 dX12_worst_6 (by decide) ?_
  refine aw_putI (fs_12_0 (by decide)) ci_12 (by decide) rfl rfl w_1458 dX12_worst_7 ?_
  refine aw_bndM (fun s_2 => ?_)
  refine aw_iload_n 1 dX12_worst_10 rfl rfl ?_
  refine aw_i2l dX12_worst_11 ?_
  refine aw_lconst 0 dX12_worst_12 (by decide) ?_
  refine aw_lconst 1 dX12_worst_13 (by decide) ?_
  refine aw_callST_B (c12_isIn s_2 (Int32.toInt64 x1) 0 1) (by decide) mk_12_isIn w_1754 w_1753 rfl rfl (Nat.le_of_ble_eq_true rfl) dX12_worst_14 ?_
  refine aw_bif_ne 26 dX12_worst_17 (by decide) ?_ ?_
  · refine aw_iconst (-1) dX12_worst_26 (by decide) ?_
    refine aw_istore_n (ls' := [(0, .ref (ad 12 0 0)), (1, .int x1), (2, .int (-1))]) [1, 2, 0] dX12_worst_27 rfl (by decide) rfl ?_
    refine aw_lconst 0 dX12_worst_28 (by decide) ?_
    refine aw_lstore_n (ls' := [(0, .ref (ad 12 0 0)), (1, .int x1), (2, .int (-1)), (3, .long 0)]) [1, 2, 3, 0] dX12_worst_29 rfl (by decide) rfl ?_
    refine aw_lconst 1 dX12_worst_30 (by decide) ?_
    refine aw_lstore (ls' := [(0, .ref (ad 12 0 0)), (1, .int x1), (2, .int (-1)), (3, .long 0), (5, .long 1)]) [1, 2, 3, 4, 0] dX12_worst_31 (by decide) rfl ?_
    refine aw_iconst 0 dX12_worst_33 (by decide) ?_
    refine aw_istore (ls' := [(0, .ref (ad 12 0 0)), (1, .int x1), (2, .int (-1)), (3, .long 0), (5, .long 1), (7, .int 0)]) [1, 2, 3, 4, 5, 0] dX12_worst_34 (by decide) rfl ?_
    refine aw_assocW ?_
    refine c12_worst_L36 x1 (fun r_10 s_11 => ?_) fuelK s_2 (-1) 0 1 0
    refine aw_iload_n 1 dX12_worst_148 rfl rfl ?_
    refine aw_if_ge 161 dX12_worst_149 (by decide) ?_ ?_
    · refine aw_iload_n 1 dX12_worst_161 rfl rfl ?_
      exact aw_ireturn rfl dX12_worst_162
    · refine aw_aload_n 0 dX12_worst_152 rfl rfl ?_
      refine aw_bipush 8 dX12_worst_153 (by decide) ?_
      refine aw_callVW_I (c12_refuse s_11 8) (io_12 (by decide)) ci_12 (by decide) mk_12_refuse w_1921 w_101 w_1919 rfl rfl (Nat.le_of_ble_eq_true rfl) dX12_worst_155 (fun v_12 s_13 => ?_)
      refine aw_goto 162 dX12_worst_158 (by decide) ?_
      exact aw_ireturn rfl dX12_worst_162
  · refine aw_aload_n 0 dX12_worst_20 rfl rfl ?_
    refine aw_iconst 5 dX12_worst_21 (by decide) ?_
    refine aw_callVW_I (c12_refuse s_2 5) (io_12 (by decide)) ci_12 (by decide) mk_12_refuse w_1921 w_101 w_1919 rfl rfl (Nat.le_of_ble_eq_true rfl) dX12_worst_22 (fun v_14 s_15 => ?_)
    exact aw_ireturn rfl dX12_worst_25
def F12_sieve_L32 (σ : Mem) (x1 : Int32) : Nat → Int32 → Int32 → Option (Int32)
  | 0 => fun _ _ => none
  | n + 1 => fun x2 x3 =>
    (ald 3000 (gI σ 12 0 5) 5).bind fun v_3 => if v_3 ≤ x3 then (some x2) else ((ald 3000 (gI σ 12 0 5) (21 + x3)).bind fun v_4 => if x1 < v_4 then (bnd (x2 ||| 0) fun v_5 => (F12_sieve_L32 σ x1 n) v_5 (x3 + 1)) else (bnd (x2 ||| (1 <<< (x3 &&& 31))) fun v_6 => (F12_sieve_L32 σ x1 n) v_6 (x3 + 1)))
set_option maxRecDepth 20000 in
theorem c12_sieve_L32 {l : Launch} {D : va_G} {ad : Nat → Nat → Nat → Nat} {cid : Nat → Nat → Nat → ClassId} {α : Type} {emb : α → Option Value} (σ : Mem) (x1 : Int32) {G : Int32 → Option (α × Mem)} (kx : ∀ r, AW (XM l D ad cid) M12_sieve 1 emb [(2, .int r)] 71 [] σ (G r)) : ∀ (n : Nat) (x2 : Int32) (x3 : Int32), AW (XM l D ad cid) M12_sieve 1 emb [(0, .ref (ad 12 0 0)), (1, .int x1), (2, .int x2), (3, .int x3)] 32 [] σ ((F12_sieve_L32 σ x1 n x2 x3).bind G) := by
  intro n
  induction n with
  | zero => intros; exact aw_none
  | succ n ih =>
    intro x2 x3
    rw [F12_sieve_L32.eq_2]
    refine aw_iload_n 3 dX12_sieve_32 rfl rfl ?_
    refine aw_aload_n 0 dX12_sieve_33 rfl rfl ?_
    refine aw_getf (fg_12_20 (by decide)) ci_12 (by decide) w_1478 dX12_sieve_34 ?_
    refine aw_iconst 5 dX12_sieve_37 (by decide) ?_
    refine aw_iaload (ar_12_5 (by decide)) dX12_sieve_38 (fun v_3 => ?_)
    refine aw_icmp_ge 71 dX12_sieve_39 (by decide) ?_ ?_
    · refine aw_ls (ls' := [(2, .int x2)]) [2] rfl ?_
      exact kx x2
    · refine aw_iload_n 2 dX12_sieve_42 rfl rfl ?_
      refine aw_aload_n 0 dX12_sieve_43 rfl rfl ?_
      refine aw_getf (fg_12_20 (by decide)) ci_12 (by decide) w_1478 dX12_sieve_44 ?_
      refine aw_bipush 21 dX12_sieve_47 (by decide) ?_
      refine aw_iload_n 3 dX12_sieve_49 rfl rfl ?_
      refine aw_iadd dX12_sieve_50 ?_
      refine aw_iaload (ar_12_5 (by decide)) dX12_sieve_51 (fun v_4 => ?_)
      refine aw_iload_n 1 dX12_sieve_52 rfl rfl ?_
      refine aw_icmp_gt 62 dX12_sieve_53 (by decide) ?_ ?_
      · refine aw_iconst 0 dX12_sieve_62 (by decide) ?_
        refine aw_ior dX12_sieve_63 ?_
        refine aw_bnd_int (fun v_5 => ?_)
        refine aw_istore_n (ls' := [(0, .ref (ad 12 0 0)), (1, .int x1), (2, .int v_5), (3, .int x3)]) [1, 2, 0, 3] dX12_sieve_64 rfl (by decide) rfl ?_
        refine aw_iinc (ls' := [(0, .ref (ad 12 0 0)), (1, .int x1), (2, .int v_5), (3, .int (x3 + 1))]) (x3 + 1) 3 [1, 2, 3, 0] dX12_sieve_65 rfl (by rfl) (by decide) rfl ?_
        refine aw_goto 32 dX12_sieve_68 (by decide) ?_
        exact ih v_5 (x3 + 1)
      · refine aw_iconst 1 dX12_sieve_56 (by decide) ?_
        refine aw_iload_n 3 dX12_sieve_57 rfl rfl ?_
        refine aw_ishl dX12_sieve_58 ?_
        refine aw_goto 63 dX12_sieve_59 (by decide) ?_
        refine aw_ior dX12_sieve_63 ?_
        refine aw_bnd_int (fun v_6 => ?_)
        refine aw_istore_n (ls' := [(0, .ref (ad 12 0 0)), (1, .int x1), (2, .int v_6), (3, .int x3)]) [1, 2, 0, 3] dX12_sieve_64 rfl (by decide) rfl ?_
        refine aw_iinc (ls' := [(0, .ref (ad 12 0 0)), (1, .int x1), (2, .int v_6), (3, .int (x3 + 1))]) (x3 + 1) 3 [1, 2, 3, 0] dX12_sieve_65 rfl (by rfl) (by decide) rfl ?_
        refine aw_goto 32 dX12_sieve_68 (by decide) ?_
        exact ih v_6 (x3 + 1)
def F12_sieve (σ : Mem) (x1 : Int32) : Option (Int32 × Mem) :=
  bnd (sI σ 12 0 0 1 0) fun s_1 => bnd (sI s_1 12 0 0 0 0) fun s_2 => if (F12_isIn (Int32.toInt64 x1) 1 12) = true then ((F12_sieve_L32 s_2 x1 fuelK 0 0).bind fun r_7 => some (r_7, s_2)) else (bd (F12_refuse s_2 5) fun v_8 s_9 => some (v_8, s_9))
set_option maxRecDepth 20000 in
theorem c12_sieve {l : Launch} {D : va_G} {ad : Nat → Nat → Nat → Nat} {cid : Nat → Nat → Nat → ClassId} (σ : Mem) (x1 : Int32) : AMF (XM l D ad cid) M12_sieve 1 eI [.ref (ad 12 0 0), .int x1] σ (F12_sieve σ x1) := by
  refine AM.ofW (by decide +kernel) (Nat.le_of_ble_eq_true rfl) (ls := [(0, .ref (ad 12 0 0)), (1, .int x1)]) rfl ?_
  refine aw_entry ?_
  unfold F12_sieve
  refine aw_aload_n 0 dX12_sieve_0 rfl rfl ?_
  refine aw_iconst 0 dX12_sieve_1 (by decide) ?_
  refine aw_putI (fs_12_1 (by decide)) ci_12 (by decide) rfl rfl w_1459 dX12_sieve_2 ?_
  refine aw_bndM (fun s_1 => ?_)
  refine aw_aload_n 0 dX12_sieve_5 rfl rfl ?_
  refine aw_iconst 0 dX12_sieve_6 (by decide) ?_
  refine aw_putI (fs_12_0 (by decide)) ci_12 (by decide) rfl rfl w_1458 dX12_sieve_7 ?_
  refine aw_bndM (fun s_2 => ?_)
  refine aw_iload_n 1 dX12_sieve_10 rfl rfl ?_
  refine aw_i2l dX12_sieve_11 ?_
  refine aw_lconst 1 dX12_sieve_12 (by decide) ?_
  refine aw_ldc2 w_2165 dX12_sieve_13 ?_
  refine aw_callST_B (c12_isIn s_2 (Int32.toInt64 x1) 1 12) (by decide) mk_12_isIn w_1754 w_1753 rfl rfl (Nat.le_of_ble_eq_true rfl) dX12_sieve_16 ?_
  refine aw_bif_ne 28 dX12_sieve_19 (by decide) ?_ ?_
  · refine aw_iconst 0 dX12_sieve_28 (by decide) ?_
    refine aw_istore_n (ls' := [(0, .ref (ad 12 0 0)), (1, .int x1), (2, .int 0)]) [1, 2, 0] dX12_sieve_29 rfl (by decide) rfl ?_
    refine aw_iconst 0 dX12_sieve_30 (by decide) ?_
    refine aw_istore_n (ls' := [(0, .ref (ad 12 0 0)), (1, .int x1), (2, .int 0), (3, .int 0)]) [1, 2, 3, 0] dX12_sieve_31 rfl (by decide) rfl ?_
    refine aw_assoc ?_
    refine c12_sieve_L32 s_2 x1 (fun r_7 => ?_) fuelK 0 0
    refine aw_iload_n 0 dX12_sieve_71 rfl rfl ?_
    exact aw_ireturn rfl dX12_sieve_72
  · refine aw_aload_n 0 dX12_sieve_22 rfl rfl ?_
    refine aw_iconst 5 dX12_sieve_23 (by decide) ?_
    refine aw_callVW_I (c12_refuse s_2 5) (io_12 (by decide)) ci_12 (by decide) mk_12_refuse w_1921 w_101 w_1919 rfl rfl (Nat.le_of_ble_eq_true rfl) dX12_sieve_24 (fun v_8 s_9 => ?_)
    exact aw_ireturn rfl dX12_sieve_27
def F12_same_L27 (σ : Mem) (x2 : Int32) : Nat → Int32 → Int32 → Option (Int32)
  | 0 => fun _ _ => none
  | n + 1 => fun x1 x3 =>
    if x2 ≤ x3 then (some x1) else ((ald 3000 (gI σ 12 0 5) (F12_holeAt x2)).bind fun v_4 => (ald 3000 (gI σ 12 0 5) (F12_holeAt x3)).bind fun v_5 => if v_4 = v_5 then ((ald 3000 (gI σ 12 0 5) ((F12_holeAt x2) + 1)).bind fun v_7 => (ald 3000 (gI σ 12 0 5) ((F12_holeAt x3) + 1)).bind fun v_8 => if v_7 = v_8 then (bnd (x1 + 1) fun v_10 => (F12_same_L27 σ x2 n) v_10 (x3 + 1)) else (bnd (x1 + 0) fun v_9 => (F12_same_L27 σ x2 n) v_9 (x3 + 1))) else (bnd (x1 + 0) fun v_6 => (F12_same_L27 σ x2 n) v_6 (x3 + 1)))
set_option maxRecDepth 20000 in
theorem c12_same_L27 {l : Launch} {D : va_G} {ad : Nat → Nat → Nat → Nat} {cid : Nat → Nat → Nat → ClassId} {α : Type} {emb : α → Option Value} (σ : Mem) (x2 : Int32) {G : Int32 → Option (α × Mem)} (kx : ∀ r, AW (XM l D ad cid) M12_same 1 emb [(0, .ref (ad 12 0 0)), (1, .int r), (2, .int x2)] 92 [] σ (G r)) : ∀ (n : Nat) (x1 : Int32) (x3 : Int32), AW (XM l D ad cid) M12_same 1 emb [(0, .ref (ad 12 0 0)), (1, .int x1), (2, .int x2), (3, .int x3)] 27 [] σ ((F12_same_L27 σ x2 n x1 x3).bind G) := by
  intro n
  induction n with
  | zero => intros; exact aw_none
  | succ n ih =>
    intro x1 x3
    rw [F12_same_L27.eq_2]
    refine aw_iload_n 3 dX12_same_27 rfl rfl ?_
    refine aw_iload_n 2 dX12_same_28 rfl rfl ?_
    refine aw_icmp_ge 92 dX12_same_29 (by decide) ?_ ?_
    · refine aw_ls (ls' := [(0, .ref (ad 12 0 0)), (1, .int x1), (2, .int x2)]) [0, 1, 2] rfl ?_
      exact kx x1
    · refine aw_iload_n 1 dX12_same_32 rfl rfl ?_
      refine aw_aload_n 0 dX12_same_33 rfl rfl ?_
      refine aw_getf (fg_12_20 (by decide)) ci_12 (by decide) w_1478 dX12_same_34 ?_
      refine aw_iload_n 2 dX12_same_37 rfl rfl ?_
      refine aw_callST_I (c12_holeAt σ x2) (by decide) mk_12_holeAt w_1956 w_1955 rfl rfl (Nat.le_of_ble_eq_true rfl) dX12_same_38 ?_
      refine aw_iaload (ar_12_5 (by decide)) dX12_same_41 (fun v_4 => ?_)
      refine aw_aload_n 0 dX12_same_42 rfl rfl ?_
      refine aw_getf (fg_12_20 (by decide)) ci_12 (by decide) w_1478 dX12_same_43 ?_
      refine aw_iload_n 3 dX12_same_46 rfl rfl ?_
      refine aw_callST_I (c12_holeAt σ x3) (by decide) mk_12_holeAt w_1956 w_1955 rfl rfl (Nat.le_of_ble_eq_true rfl) dX12_same_47 ?_
      refine aw_iaload (ar_12_5 (by decide)) dX12_same_50 (fun v_5 => ?_)
      refine aw_icmp_ne 83 dX12_same_51 (by decide) ?_ ?_
      · refine aw_iconst 0 dX12_same_83 (by decide) ?_
        refine aw_iadd dX12_same_84 ?_
        refine aw_bnd_int (fun v_6 => ?_)
        refine aw_istore_n (ls' := [(0, .ref (ad 12 0 0)), (1, .int v_6), (2, .int x2), (3, .int x3)]) [1, 0, 2, 3] dX12_same_85 rfl (by decide) rfl ?_
        refine aw_iinc (ls' := [(0, .ref (ad 12 0 0)), (1, .int v_6), (2, .int x2), (3, .int (x3 + 1))]) (x3 + 1) 3 [1, 2, 3, 0] dX12_same_86 rfl (by rfl) (by decide) rfl ?_
        refine aw_goto 27 dX12_same_89 (by decide) ?_
        exact ih v_6 (x3 + 1)
      · refine aw_aload_n 0 dX12_same_54 rfl rfl ?_
        refine aw_getf (fg_12_20 (by decide)) ci_12 (by decide) w_1478 dX12_same_55 ?_
        refine aw_iload_n 2 dX12_same_58 rfl rfl ?_
        refine aw_callST_I (c12_holeAt σ x2) (by decide) mk_12_holeAt w_1956 w_1955 rfl rfl (Nat.le_of_ble_eq_true rfl) dX12_same_59 ?_
        refine aw_iconst 1 dX12_same_62 (by decide) ?_
        refine aw_iadd dX12_same_63 ?_
        refine aw_iaload (ar_12_5 (by decide)) dX12_same_64 (fun v_7 => ?_)
        refine aw_aload_n 0 dX12_same_65 rfl rfl ?_
        refine aw_getf (fg_12_20 (by decide)) ci_12 (by decide) w_1478 dX12_same_66 ?_
        refine aw_iload_n 3 dX12_same_69 rfl rfl ?_
        refine aw_callST_I (c12_holeAt σ x3) (by decide) mk_12_holeAt w_1956 w_1955 rfl rfl (Nat.le_of_ble_eq_true rfl) dX12_same_70 ?_
        refine aw_iconst 1 dX12_same_73 (by decide) ?_
        refine aw_iadd dX12_same_74 ?_
        refine aw_iaload (ar_12_5 (by decide)) dX12_same_75 (fun v_8 => ?_)
        refine aw_icmp_ne 83 dX12_same_76 (by decide) ?_ ?_
        · refine aw_iconst 0 dX12_same_83 (by decide) ?_
          refine aw_iadd dX12_same_84 ?_
          refine aw_bnd_int (fun v_9 => ?_)
          refine aw_istore_n (ls' := [(0, .ref (ad 12 0 0)), (1, .int v_9), (2, .int x2), (3, .int x3)]) [1, 0, 2, 3] dX12_same_85 rfl (by decide) rfl ?_
          refine aw_iinc (ls' := [(0, .ref (ad 12 0 0)), (1, .int v_9), (2, .int x2), (3, .int (x3 + 1))]) (x3 + 1) 3 [1, 2, 3, 0] dX12_same_86 rfl (by rfl) (by decide) rfl ?_
          refine aw_goto 27 dX12_same_89 (by decide) ?_
          exact ih v_9 (x3 + 1)
        · refine aw_iconst 1 dX12_same_79 (by decide) ?_
          refine aw_goto 84 dX12_same_80 (by decide) ?_
          refine aw_iadd dX12_same_84 ?_
          refine aw_bnd_int (fun v_10 => ?_)
          refine aw_istore_n (ls' := [(0, .ref (ad 12 0 0)), (1, .int v_10), (2, .int x2), (3, .int x3)]) [1, 0, 2, 3] dX12_same_85 rfl (by decide) rfl ?_
          refine aw_iinc (ls' := [(0, .ref (ad 12 0 0)), (1, .int v_10), (2, .int x2), (3, .int (x3 + 1))]) (x3 + 1) 3 [1, 2, 3, 0] dX12_same_86 rfl (by rfl) (by decide) rfl ?_
          refine aw_goto 27 dX12_same_89 (by decide) ?_
          exact ih v_10 (x3 + 1)
def F12_same_L14 (σ : Mem)  : Nat → Int32 → Int32 → Option (Int32)
  | 0 => fun _ _ => none
  | n + 1 => fun x1 x2 =>
    (ald 3000 (gI σ 12 0 5) 8).bind fun v_3 => if v_3 ≤ x2 then (some x1) else ((F12_same_L27 σ x2 fuelK x1 0).bind fun r_11 => (F12_same_L14 σ n) r_11 (x2 + 1))
set_option maxRecDepth 20000 in
theorem c12_same_L14 {l : Launch} {D : va_G} {ad : Nat → Nat → Nat → Nat} {cid : Nat → Nat → Nat → ClassId} {α : Type} {emb : α → Option Value} (σ : Mem)  {G : Int32 → Option (α × Mem)} (kx : ∀ r, AW (XM l D ad cid) M12_same 1 emb [(1, .int r)] 98 [] σ (G r)) : ∀ (n : Nat) (x1 : Int32) (x2 : Int32), AW (XM l D ad cid) M12_same 1 emb [(0, .ref (ad 12 0 0)), (1, .int x1), (2, .int x2)] 14 [] σ ((F12_same_L14 σ  n x1 x2).bind G) := by
  intro n
  induction n with
  | zero => intros; exact aw_none
  | succ n ih =>
    intro x1 x2
    rw [F12_same_L14.eq_2]
    refine aw_iload_n 2 dX12_same_14 rfl rfl ?_
    refine aw_aload_n 0 dX12_same_15 rfl rfl ?_
    refine aw_getf (fg_12_20 (by decide)) ci_12 (by decide) w_1478 dX12_same_16 ?_
    refine aw_bipush 8 dX12_same_19 (by decide) ?_
    refine aw_iaload (ar_12_5 (by decide)) dX12_same_21 (fun v_3 => ?_)
    refine aw_icmp_ge 98 dX12_same_22 (by decide) ?_ ?_
    · refine aw_ls (ls' := [(1, .int x1)]) [1] rfl ?_
      exact kx x1
    · refine aw_iconst 0 dX12_same_25 (by decide) ?_
      refine aw_istore_n (ls' := [(0, .ref (ad 12 0 0)), (1, .int x1), (2, .int x2), (3, .int 0)]) [1, 2, 3, 0] dX12_same_26 rfl (by decide) rfl ?_
      refine aw_assoc ?_
      refine c12_same_L27 σ x2 (fun r_11 => ?_) fuelK x1 0
      refine aw_iinc (ls' := [(0, .ref (ad 12 0 0)), (1, .int r_11), (2, .int (x2 + 1))]) (x2 + 1) 2 [1, 2, 0] dX12_same_92 rfl (by rfl) (by decide) rfl ?_
      refine aw_goto 14 dX12_same_95 (by decide) ?_
      exact ih r_11 (x2 + 1)
def F12_same (σ : Mem)  : Option (Int32 × Mem) :=
  bnd (sI σ 12 0 0 1 0) fun s_1 => bnd (sI s_1 12 0 0 0 0) fun s_2 => (F12_same_L14 s_2  fuelK 0 0).bind fun r_12 => some (r_12, s_2)
set_option maxRecDepth 20000 in
theorem c12_same {l : Launch} {D : va_G} {ad : Nat → Nat → Nat → Nat} {cid : Nat → Nat → Nat → ClassId} (σ : Mem)  : AMF (XM l D ad cid) M12_same 1 eI [.ref (ad 12 0 0)] σ (F12_same σ) := by
  refine AM.ofW (by decide +kernel) (Nat.le_of_ble_eq_true rfl) (ls := [(0, .ref (ad 12 0 0))]) rfl ?_
  refine aw_entry ?_
  unfold F12_same
  refine aw_aload_n 0 dX12_same_0 rfl rfl ?_
  refine aw_iconst 0 dX12_same_1 (by decide) ?_
  refine aw_putI (fs_12_1 (by decide)) ci_12 (by decide) rfl rfl w_1459 dX12_same_2 ?_
  refine aw_bndM (fun s_1 => ?_)
  refine aw_aload_n 0 dX12_same_5 rfl rfl ?_
  refine aw_iconst 0 dX12_same_6 (by decide) ?_
  refine aw_putI (fs_12_0 (by decide)) ci_12 (by decide) rfl rfl w_1458 dX12_same_7 ?_
  refine aw_bndM (fun s_2 => ?_)
  refine aw_iconst 0 dX12_same_10 (by decide) ?_
  refine aw_istore_n (ls' := [(0, .ref (ad 12 0 0)), (1, .int 0)]) [1, 0] dX12_same_11 rfl (by decide) rfl ?_
  refine aw_iconst 0 dX12_same_12 (by decide) ?_
  refine aw_istore_n (ls' := [(0, .ref (ad 12 0 0)), (1, .int 0), (2, .int 0)]) [1, 2, 0] dX12_same_13 rfl (by decide) rfl ?_
  refine aw_assoc ?_
  refine c12_same_L14 s_2  (fun r_12 => ?_) fuelK 0 0
  refine aw_iload_n 0 dX12_same_98 rfl rfl ?_
  exact aw_ireturn rfl dX12_same_99
def F12_shoots (σ : Mem) (x1 : Int32) (x2 : Int32) (x3 : Int32) (x4 : Int32) (x5 : Int32) (x6 : Int32) (x7 : Int32) : Option (Int32 × Mem) :=
  (F12_strikeX σ x1 x3 x5 x6).bind fun v_1 => (F12_strikeY σ x1 x4 x7).bind fun v_2 => (F12_pointsOf σ v_1 v_2).bind fun v_3 => (ald 3000 (gI σ 12 0 5) 7).bind fun v_4 => chk 3000 7 <| bnd (sI σ 12 0 5 (Int32.toNatClampNeg 7) (iMin 20 (v_4 + 1))) fun s_5 => (ald 3000 (gI s_5 12 0 5) (77 + x1)).bind fun v_6 => chk 3000 (77 + x1) <| bnd (sI s_5 12 0 5 (Int32.toNatClampNeg (77 + x1)) (v_6 + v_3)) fun s_7 => if (F12_isIn (Int32.toInt64 v_1) (-99) 99) = true then (if (F12_isIn (Int32.toInt64 v_2) (-99) 99) = true then ((ald 3000 (gI s_7 12 0 5) 8).bind fun v_8 => bnd (F12_holeAt v_8) fun v_9 => chk 3000 v_9 <| bnd (sI s_7 12 0 5 (Int32.toNatClampNeg v_9) v_1) fun s_10 => chk 3000 (v_9 + 1) <| bnd (sI s_10 12 0 5 (Int32.toNatClampNeg (v_9 + 1)) v_2) fun s_11 => chk 3000 (v_9 + 2) <| bnd (sI s_11 12 0 5 (Int32.toNatClampNeg (v_9 + 2)) x1) fun s_12 => chk 3000 (v_9 + 3) <| bnd (sI s_12 12 0 5 (Int32.toNatClampNeg (v_9 + 3)) x2) fun s_13 => (ald 3000 (gI s_13 12 0 5) 8).bind fun v_14 => chk 3000 8 <| bnd (sI s_13 12 0 5 (Int32.toNatClampNeg 8) (v_14 + 1)) fun s_15 => some (v_3, s_15)) else (some (v_3, s_7))) else (some (v_3, s_7))
set_option maxRecDepth 20000 in
theorem c12_shoots {l : Launch} {D : va_G} {ad : Nat → Nat → Nat → Nat} {cid : Nat → Nat → Nat → ClassId} (σ : Mem) (x1 : Int32) (x2 : Int32) (x3 : Int32) (x4 : Int32) (x5 : Int32) (x6 : Int32) (x7 : Int32) : AMF (XM l D ad cid) M12_shoots 2 eI [.ref (ad 12 0 0), .int x1, .int x2, .int x3, .int x4, .int x5, .int x6, .int x7] σ (F12_shoots σ x1 x2 x3 x4 x5 x6 x7) := by
  refine AM.ofW (by decide +kernel) (Nat.le_of_ble_eq_true rfl) (ls := [(0, .ref (ad 12 0 0)), (1, .int x1), (2, .int x2), (3, .int x3), (4, .int x4), (5, .int x5), (6, .int x6), (7, .int x7)]) rfl ?_
  refine aw_entry ?_
  unfold F12_shoots
  refine aw_aload_n 0 dX12_shoots_0 rfl rfl ?_
  refine aw_iload_n 1 dX12_shoots_1 rfl rfl ?_
  refine aw_iload_n 3 dX12_shoots_2 rfl rfl ?_
  refine aw_iload 5 dX12_shoots_3 rfl ?_
  refine aw_iload 6 dX12_shoots_5 rfl ?_
  refine aw_callVO_I (c12_strikeX σ x1 x3 x5 x6) (io_12 (by decide)) ci_12 (by decide) mk_12_strikeX w_2002 w_110 w_2000 rfl rfl (Nat.le_of_ble_eq_true rfl) dX12_shoots_7 (fun v_1 => ?_)
  refine aw_istore (ls' := [(0, .ref (ad 12 0 0)), (1, .int x1), (2, .int x2), (4, .int x4), (7, .int x7), (8, .int v_1)]) [1, 2, 3, 5, 8, 0] dX12_shoots_10 (by decide) rfl ?_
  refine aw_aload_n 0 dX12_shoots_12 rfl rfl ?_
  refine aw_iload_n 1 dX12_shoots_13 rfl rfl ?_
  refine aw_iload 3 dX12_shoots_14 rfl ?_
  refine aw_iload 4 dX12_shoots_16 rfl ?_
  refine aw_callVO_I (c12_strikeY σ x1 x4 x7) (io_12 (by decide)) ci_12 (by decide) mk_12_strikeY w_2006 w_111 w_2004 rfl rfl (Nat.le_of_ble_eq_true rfl) dX12_shoots_18 (fun v_2 => ?_)
  refine aw_istore (ls' := [(0, .ref (ad 12 0 0)), (1, .int x1), (2, .int x2), (8, .int v_1), (9, .int v_2)]) [1, 2, 3, 6, 0] dX12_shoots_21 (by decide) rfl ?_
  refine aw_aload_n 0 dX12_shoots_23 rfl rfl ?_
  refine aw_iload 3 dX12_shoots_24 rfl ?_
  refine aw_iload 4 dX12_shoots_26 rfl ?_
  refine aw_callVO_I (c12_pointsOf σ v_1 v_2) (io_12 (by decide)) ci_12 (by decide) mk_12_pointsOf w_2019 w_112 w_2017 rfl rfl (Nat.le_of_ble_eq_true rfl) dX12_shoots_28 (fun v_3 => ?_)
  refine aw_istore (ls' := [(0, .ref (ad 12 0 0)), (1, .int x1), (2, .int x2), (8, .int v_1), (9, .int v_2), (10, .int v_3)]) [1, 2, 3, 4, 5, 0] dX12_shoots_31 (by decide) rfl ?_
  refine aw_aload_n 0 dX12_shoots_33 rfl rfl ?_
  refine aw_getf (fg_12_20 (by decide)) ci_12 (by decide) w_1478 dX12_shoots_34 ?_
  refine aw_bipush 7 dX12_shoots_37 (by decide) ?_
  refine aw_bipush 20 dX12_shoots_39 (by decide) ?_
  refine aw_aload_n 0 dX12_shoots_41 rfl rfl ?_
  refine aw_getf (fg_12_20 (by decide)) ci_12 (by decide) w_1478 dX12_shoots_42 ?_
  refine aw_bipush 7 dX12_shoots_45 (by decide) ?_
  refine aw_iaload (ar_12_5 (by decide)) dX12_shoots_47 (fun v_4 => ?_)
  refine aw_iconst 1 dX12_shoots_48 (by decide) ?_
  refine aw_iadd dX12_shoots_49 ?_
  refine aw_min w_2037 w_864 w_159 w_865 (Nat.le_of_ble_eq_true rfl) dX12_shoots_50 ?_
  refine aw_iastore (ar_12_5 (by decide)) dX12_shoots_53 ?_
  refine aw_bndM (fun s_5 => ?_)
  refine aw_aload_n 0 dX12_shoots_54 rfl rfl ?_
  refine aw_getf (fg_12_20 (by decide)) ci_12 (by decide) w_1478 dX12_shoots_55 ?_
  refine aw_bipush 77 dX12_shoots_58 (by decide) ?_
  refine aw_iload_n 1 dX12_shoots_60 rfl rfl ?_
  refine aw_iadd dX12_shoots_61 ?_
  refine aw_dup2_11 dX12_shoots_62 rfl rfl ?_
  refine aw_iaload (ar_12_5 (by decide)) dX12_shoots_63 (fun v_6 => ?_)
  refine aw_iload 5 dX12_shoots_64 rfl ?_
  refine aw_iadd dX12_shoots_66 ?_
  refine aw_iastore (ar_12_5 (by decide)) dX12_shoots_67 ?_
  refine aw_bndM (fun s_7 => ?_)
  refine aw_iload 3 dX12_shoots_68 rfl ?_
  refine aw_i2l dX12_shoots_70 ?_
  refine aw_ldc2 w_2156 dX12_shoots_71 ?_
  refine aw_ldc2 w_2100 dX12_shoots_74 ?_
  refine aw_callST_B (c12_isIn s_7 (Int32.toInt64 v_1) (-99) 99) (by decide) mk_12_isIn w_1754 w_1753 rfl rfl (Nat.le_of_ble_eq_true rfl) dX12_shoots_77 ?_
  refine aw_bif_eq 161 dX12_shoots_80 (by decide) ?_ ?_
  · refine aw_iload 5 dX12_shoots_161 rfl ?_
    exact aw_ireturn rfl dX12_shoots_163
  · refine aw_iload 4 dX12_shoots_83 rfl ?_
    refine aw_i2l dX12_shoots_85 ?_
    refine aw_ldc2 w_2156 dX12_shoots_86 ?_
    refine aw_ldc2 w_2100 dX12_shoots_89 ?_
    refine aw_callST_B (c12_isIn s_7 (Int32.toInt64 v_2) (-99) 99) (by decide) mk_12_isIn w_1754 w_1753 rfl rfl (Nat.le_of_ble_eq_true rfl) dX12_shoots_92 ?_
    refine aw_bif_eq 161 dX12_shoots_95 (by decide) ?_ ?_
    · refine aw_iload 5 dX12_shoots_161 rfl ?_
      exact aw_ireturn rfl dX12_shoots_163
    · refine aw_aload_n 0 dX12_shoots_98 rfl rfl ?_
      refine aw_getf (fg_12_20 (by decide)) ci_12 (by decide) w_1478 dX12_shoots_99 ?_
      refine aw_bipush 8 dX12_shoots_102 (by decide) ?_
      refine aw_iaload (ar_12_5 (by decide)) dX12_shoots_104 (fun v_8 => ?_)
      refine aw_callST_I (c12_holeAt s_7 v_8) (by decide) mk_12_holeAt w_1956 w_1955 rfl rfl (Nat.le_of_ble_eq_true rfl) dX12_shoots_105 ?_
      refine aw_bnd_int (fun v_9 => ?_)
      refine aw_istore (ls' := [(0, .ref (ad 12 0 0)), (1, .int x1), (2, .int x2), (8, .int v_1), (9, .int v_2), (10, .int v_3), (11, .int v_9)]) [1, 2, 3, 4, 5, 6, 0] dX12_shoots_108 (by decide) rfl ?_
      refine aw_aload_n 0 dX12_shoots_110 rfl rfl ?_
      refine aw_getf (fg_12_20 (by decide)) ci_12 (by decide) w_1478 dX12_shoots_111 ?_
      refine aw_iload 6 dX12_shoots_114 rfl ?_
      refine aw_iload 3 dX12_shoots_116 rfl ?_
      refine aw_iastore (ar_12_5 (by decide)) dX12_shoots_118 ?_
      refine aw_bndM (fun s_10 => ?_)
      refine aw_aload_n 0 dX12_shoots_119 rfl rfl ?_
      refine aw_getf (fg_12_20 (by decide)) ci_12 (by decide) w_1478 dX12_shoots_120 ?_
      refine aw_iload 6 dX12_shoots_123 rfl ?_
      refine aw_iconst 1 dX12_shoots_125 (by decide) ?_
      refine aw_iadd dX12_shoots_126 ?_
      refine aw_iload 4 dX12_shoots_127 rfl ?_
      refine aw_iastore (ar_12_5 (by decide)) dX12_shoots_129 ?_
      refine aw_bndM (fun s_11 => ?_)
      refine aw_aload_n 0 dX12_shoots_130 rfl rfl ?_
      refine aw_getf (fg_12_20 (by decide)) ci_12 (by decide) w_1478 dX12_shoots_131 ?_
      refine aw_iload 6 dX12_shoots_134 rfl ?_
      refine aw_iconst 2 dX12_shoots_136 (by decide) ?_
      refine aw_iadd dX12_shoots_137 ?_
      refine aw_iload_n 1 dX12_shoots_138 rfl rfl ?_
      refine aw_iastore (ar_12_5 (by decide)) dX12_shoots_139 ?_
      refine aw_bndM (fun s_12 => ?_)
      refine aw_aload_n 0 dX12_shoots_140 rfl rfl ?_
      refine aw_getf (fg_12_20 (by decide)) ci_12 (by decide) w_1478 dX12_shoots_141 ?_
      refine aw_iload 6 dX12_shoots_144 rfl ?_
      refine aw_iconst 3 dX12_shoots_146 (by decide) ?_
      refine aw_iadd dX12_shoots_147 ?_
      refine aw_iload_n 2 dX12_shoots_148 rfl rfl ?_
      refine aw_iastore (ar_12_5 (by decide)) dX12_shoots_149 ?_
      refine aw_bndM (fun s_13 => ?_)
      refine aw_aload_n 0 dX12_shoots_150 rfl rfl ?_
      refine aw_getf (fg_12_20 (by decide)) ci_12 (by decide) w_1478 dX12_shoots_151 ?_
      refine aw_bipush 8 dX12_shoots_154 (by decide) ?_
      refine aw_dup2_11 dX12_shoots_156 rfl rfl ?_
      refine aw_iaload (ar_12_5 (by decide)) dX12_shoots_157 (fun v_14 => ?_)
      refine aw_iconst 1 dX12_shoots_158 (by decide) ?_
      refine aw_iadd dX12_shoots_159 ?_
      refine aw_iastore (ar_12_5 (by decide)) dX12_shoots_160 ?_
      refine aw_bndM (fun s_15 => ?_)
      refine aw_iload 5 dX12_shoots_161 rfl ?_
      exact aw_ireturn rfl dX12_shoots_163
def F12_shoot (σ : Mem) (x1 : Int32) (x2 : Int32) (x3 : Int32) (x4 : Int32) (x5 : Int32) (x6 : Int32) (x7 : Int32) (x8 : Int32) : Option (Int32 × Mem) :=
  bnd (sI σ 12 0 0 1 0) fun s_1 => bnd (sI s_1 12 0 0 0 0) fun s_2 => (F12_isShot s_2 x1 x2).bind fun v_3 => if v_3 = true then ((ald 3000 (gI s_2 12 0 5) (53 + x1)).bind fun v_4 => if (F12_isPuffing x3 v_4) = true then (if (F12_isAim x4 x5) = true then (if (F12_isIn (Int32.toInt64 x6) (-1) 1) = true then (if (F12_isIn (Int32.toInt64 x7) (-6) 6) = true then (if (F12_isIn (Int32.toInt64 x8) (-6) 6) = true then ((ald 3000 (gI s_2 12 0 5) 8).bind fun v_13 => if v_13 = 60 then (bd (F12_refuse s_2 7) fun v_21 s_22 => some (v_21, s_22)) else ((ald 3000 (gI s_2 12 0 5) 7).bind fun v_14 => bd (F12_flies s_2 x2 x3 v_14) fun v_15 s_16 => if v_15 = true then (bd (F12_shoots s_16 x1 x2 x4 x5 x6 x7 x8) fun v_19 s_20 => some (v_19, s_20)) else (bd (F12_refuse s_16 9) fun v_17 s_18 => some (v_17, s_18)))) else (bd (F12_refuse s_2 5) fun v_23 s_24 => some (v_23, s_24))) else (bd (F12_refuse s_2 5) fun v_11 s_12 => some (v_11, s_12))) else (bd (F12_refuse s_2 5) fun v_9 s_10 => some (v_9, s_10))) else (bd (F12_refuse s_2 5) fun v_7 s_8 => some (v_7, s_8))) else (bd (F12_refuse s_2 5) fun v_5 s_6 => some (v_5, s_6))) else (bd (F12_refuse s_2 2) fun v_25 s_26 => some (v_25, s_26))
set_option maxRecDepth 20000 in
theorem c12_shoot {l : Launch} {D : va_G} {ad : Nat → Nat → Nat → Nat} {cid : Nat → Nat → Nat → ClassId} (σ : Mem) (x1 : Int32) (x2 : Int32) (x3 : Int32) (x4 : Int32) (x5 : Int32) (x6 : Int32) (x7 : Int32) (x8 : Int32) : AMF (XM l D ad cid) M12_shoot 4 eI [.ref (ad 12 0 0), .int x1, .int x2, .int x3, .int x4, .int x5, .int x6, .int x7, .int x8] σ (F12_shoot σ x1 x2 x3 x4 x5 x6 x7 x8) := by
  refine AM.ofW (by decide +kernel) (Nat.le_of_ble_eq_true rfl) (ls := [(0, .ref (ad 12 0 0)), (1, .int x1), (2, .int x2), (3, .int x3), (4, .int x4), (5, .int x5), (6, .int x6), (7, .int x7), (8, .int x8)]) rfl ?_
  refine aw_entry ?_
  unfold F12_shoot
  refine aw_aload_n 0 dX12_shoot_0 rfl rfl ?_
  refine aw_iconst 0 dX12_shoot_1 (by decide) ?_
  refine aw_putI (fs_12_1 (by decide)) ci_12 (by decide) rfl rfl w_1459 dX12_shoot_2 ?_
  refine aw_bndM (fun s_1 => ?_)
  refine aw_aload_n 0 dX12_shoot_5 rfl rfl ?_
  refine aw_iconst 0 dX12_shoot_6 (by decide) ?_
  refine aw_putI (fs_12_0 (by decide)) ci_12 (by decide) rfl rfl w_1458 dX12_shoot_7 ?_
  refine aw_bndM (fun s_2 => ?_)
  refine aw_aload_n 0 dX12_shoot_10 rfl rfl ?_
  refine aw_iload_n 1 dX12_shoot_11 rfl rfl ?_
  refine aw_iload_n 2 dX12_shoot_12 rfl rfl ?_
  refine aw_callVO_B (c12_isShot s_2 x1 x2) (io_12 (by decide)) ci_12 (by decide) mk_12_isShot w_2044 w_115 w_2042 rfl rfl (Nat.le_of_ble_eq_true rfl) dX12_shoot_13 (fun v_3 => ?_)
  refine aw_bif_ne 25 dX12_shoot_16 (by decide) ?_ ?_
  · refine aw_iload_n 3 dX12_shoot_25 rfl rfl ?_
    refine aw_aload_n 0 dX12_shoot_26 rfl rfl ?_
    refine aw_getf (fg_12_20 (by decide)) ci_12 (by decide) w_1478 dX12_shoot_27 ?_
    refine aw_bipush 53 dX12_shoot_30 (by decide) ?_
    refine aw_iload_n 1 dX12_shoot_32 rfl rfl ?_
    refine aw_iadd dX12_shoot_33 ?_
    refine aw_iaload (ar_12_5 (by decide)) dX12_shoot_34 (fun v_4 => ?_)
    refine aw_callST_B (c12_isPuffing s_2 x3 v_4) (by decide) mk_12_isPuffing w_1963 w_1962 rfl rfl (Nat.le_of_ble_eq_true rfl) dX12_shoot_35 ?_
    refine aw_bif_eq 94 dX12_shoot_38 (by decide) ?_ ?_
    · refine aw_aload_n 0 dX12_shoot_94 rfl rfl ?_
      refine aw_iconst 5 dX12_shoot_95 (by decide) ?_
      refine aw_callVW_I (c12_refuse s_2 5) (io_12 (by decide)) ci_12 (by decide) mk_12_refuse w_1921 w_101 w_1919 rfl rfl (Nat.le_of_ble_eq_true rfl) dX12_shoot_96 (fun v_5 s_6 => ?_)
      exact aw_ireturn rfl dX12_shoot_99
    · refine aw_iload 4 dX12_shoot_41 rfl ?_
      refine aw_iload 5 dX12_shoot_43 rfl ?_
      refine aw_callST_B (c12_isAim s_2 x4 x5) (by decide) mk_12_isAim w_1996 w_1995 rfl rfl (Nat.le_of_ble_eq_true rfl) dX12_shoot_45 ?_
      refine aw_bif_eq 94 dX12_shoot_48 (by decide) ?_ ?_
      · refine aw_aload_n 0 dX12_shoot_94 rfl rfl ?_
        refine aw_iconst 5 dX12_shoot_95 (by decide) ?_
        refine aw_callVW_I (c12_refuse s_2 5) (io_12 (by decide)) ci_12 (by decide) mk_12_refuse w_1921 w_101 w_1919 rfl rfl (Nat.le_of_ble_eq_true rfl) dX12_shoot_96 (fun v_7 s_8 => ?_)
        exact aw_ireturn rfl dX12_shoot_99
      · refine aw_iload 6 dX12_shoot_51 rfl ?_
        refine aw_i2l dX12_shoot_53 ?_
        refine aw_ldc2 w_1681 dX12_shoot_54 ?_
        refine aw_lconst 1 dX12_shoot_57 (by decide) ?_
        refine aw_callST_B (c12_isIn s_2 (Int32.toInt64 x6) (-1) 1) (by decide) mk_12_isIn w_1754 w_1753 rfl rfl (Nat.le_of_ble_eq_true rfl) dX12_shoot_58 ?_
        refine aw_bif_eq 94 dX12_shoot_61 (by decide) ?_ ?_
        · refine aw_aload_n 0 dX12_shoot_94 rfl rfl ?_
          refine aw_iconst 5 dX12_shoot_95 (by decide) ?_
          refine aw_callVW_I (c12_refuse s_2 5) (io_12 (by decide)) ci_12 (by decide) mk_12_refuse w_1921 w_101 w_1919 rfl rfl (Nat.le_of_ble_eq_true rfl) dX12_shoot_96 (fun v_9 s_10 => ?_)
          exact aw_ireturn rfl dX12_shoot_99
        · refine aw_iload 7 dX12_shoot_64 rfl ?_
          refine aw_i2l dX12_shoot_66 ?_
          refine aw_ldc2 w_2174 dX12_shoot_67 ?_
          refine aw_ldc2 w_2175 dX12_shoot_70 ?_
          refine aw_callST_B (c12_isIn s_2 (Int32.toInt64 x7) (-6) 6) (by decide) mk_12_isIn w_1754 w_1753 rfl rfl (Nat.le_of_ble_eq_true rfl) dX12_shoot_73 ?_
          refine aw_bif_eq 94 dX12_shoot_76 (by decide) ?_ ?_
          · refine aw_aload_n 0 dX12_shoot_94 rfl rfl ?_
            refine aw_iconst 5 dX12_shoot_95 (by decide) ?_
            refine aw_callVW_I (c12_refuse s_2 5) (io_12 (by decide)) ci_12 (by decide) mk_12_refuse w_1921 w_101 w_1919 rfl rfl (Nat.le_of_ble_eq_true rfl) dX12_shoot_96 (fun v_11 s_12 => ?_)
            exact aw_ireturn rfl dX12_shoot_99
          · refine aw_iload 8 dX12_shoot_79 rfl ?_
            refine aw_i2l dX12_shoot_81 ?_
            refine aw_ldc2 w_2174 dX12_shoot_82 ?_
            refine aw_ldc2 w_2175 dX12_shoot_85 ?_
            refine aw_callST_B (c12_isIn s_2 (Int32.toInt64 x8) (-6) 6) (by decide) mk_12_isIn w_1754 w_1753 rfl rfl (Nat.le_of_ble_eq_true rfl) dX12_shoot_88 ?_
            refine aw_bif_ne 100 dX12_shoot_91 (by decide) ?_ ?_
            · refine aw_aload_n 0 dX12_shoot_100 rfl rfl ?_
              refine aw_getf (fg_12_20 (by decide)) ci_12 (by decide) w_1478 dX12_shoot_101 ?_
              refine aw_bipush 8 dX12_shoot_104 (by decide) ?_
              refine aw_iaload (ar_12_5 (by decide)) dX12_shoot_106 (fun v_13 => ?_)
              refine aw_bipush 60 dX12_shoot_107 (by decide) ?_
              refine aw_icmp_ne 119 dX12_shoot_109 (by decide) ?_ ?_
              · refine aw_aload_n 0 dX12_shoot_119 rfl rfl ?_
                refine aw_iload_n 2 dX12_shoot_120 rfl rfl ?_
                refine aw_iload_n 3 dX12_shoot_121 rfl rfl ?_
                refine aw_aload_n 0 dX12_shoot_122 rfl rfl ?_
                refine aw_getf (fg_12_20 (by decide)) ci_12 (by decide) w_1478 dX12_shoot_123 ?_
                refine aw_bipush 7 dX12_shoot_126 (by decide) ?_
                refine aw_iaload (ar_12_5 (by decide)) dX12_shoot_128 (fun v_14 => ?_)
                refine aw_callVW_B (c12_flies s_2 x2 x3 v_14) (io_12 (by decide)) ci_12 (by decide) mk_12_flies w_1984 w_109 w_1982 rfl rfl (Nat.le_of_ble_eq_true rfl) dX12_shoot_129 (fun v_15 s_16 => ?_)
                refine aw_bif_eq 154 dX12_shoot_132 (by decide) ?_ ?_
                · refine aw_aload_n 0 dX12_shoot_154 rfl rfl ?_
                  refine aw_bipush 9 dX12_shoot_155 (by decide) ?_
                  refine aw_callVW_I (c12_refuse s_16 9) (io_12 (by decide)) ci_12 (by decide) mk_12_refuse w_1921 w_101 w_1919 rfl rfl (Nat.le_of_ble_eq_true rfl) dX12_shoot_157 (fun v_17 s_18 => ?_)
                  exact aw_ireturn rfl dX12_shoot_160
                · refine aw_aload_n 0 dX12_shoot_135 rfl rfl ?_
                  refine aw_iload_n 1 dX12_shoot_136 rfl rfl ?_
                  refine aw_iload_n 2 dX12_shoot_137 rfl rfl ?_
                  refine aw_iload 4 dX12_shoot_138 rfl ?_
                  refine aw_iload 5 dX12_shoot_140 rfl ?_
                  refine aw_iload 6 dX12_shoot_142 rfl ?_
                  refine aw_iload 7 dX12_shoot_144 rfl ?_
                  refine aw_iload 8 dX12_shoot_146 rfl ?_
                  refine aw_callVW_I (c12_shoots s_16 x1 x2 x4 x5 x6 x7 x8) (io_12 (by decide)) ci_12 (by decide) mk_12_shoots w_2178 w_129 w_2176 rfl rfl (Nat.le_of_ble_eq_true rfl) dX12_shoot_148 (fun v_19 s_20 => ?_)
                  refine aw_goto 160 dX12_shoot_151 (by decide) ?_
                  exact aw_ireturn rfl dX12_shoot_160
              · refine aw_aload_n 0 dX12_shoot_112 rfl rfl ?_
                refine aw_bipush 7 dX12_shoot_113 (by decide) ?_
                refine aw_callVW_I (c12_refuse s_2 7) (io_12 (by decide)) ci_12 (by decide) mk_12_refuse w_1921 w_101 w_1919 rfl rfl (Nat.le_of_ble_eq_true rfl) dX12_shoot_115 (fun v_21 s_22 => ?_)
                exact aw_ireturn rfl dX12_shoot_118
            · refine aw_aload_n 0 dX12_shoot_94 rfl rfl ?_
              refine aw_iconst 5 dX12_shoot_95 (by decide) ?_
              refine aw_callVW_I (c12_refuse s_2 5) (io_12 (by decide)) ci_12 (by decide) mk_12_refuse w_1921 w_101 w_1919 rfl rfl (Nat.le_of_ble_eq_true rfl) dX12_shoot_96 (fun v_23 s_24 => ?_)
              exact aw_ireturn rfl dX12_shoot_99
  · refine aw_aload_n 0 dX12_shoot_19 rfl rfl ?_
    refine aw_iconst 2 dX12_shoot_20 (by decide) ?_
    refine aw_callVW_I (c12_refuse s_2 2) (io_12 (by decide)) ci_12 (by decide) mk_12_refuse w_1921 w_101 w_1919 rfl rfl (Nat.le_of_ble_eq_true rfl) dX12_shoot_21 (fun v_25 s_26 => ?_)
    exact aw_ireturn rfl dX12_shoot_24
