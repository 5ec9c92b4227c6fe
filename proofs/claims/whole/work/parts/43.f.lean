def F12_hand (σ : Mem) (x1 : Int32) (x2 : Int32) : Option (Int32 × Mem) :=
  bnd (sI σ 12 0 0 1 0) fun s_1 => bnd (sI s_1 12 0 0 0 0) fun s_2 => (F12_isShooterAt s_2 x1).bind fun v_3 => if v_3 = true then (if (F12_isIn (Int32.toInt64 x2) 0 3) = true then ((F12_handOf s_2 x1 x2).bind fun v_6 => some (v_6, s_2)) else (bd (F12_refuse s_2 5) fun v_4 s_5 => some (v_4, s_5))) else (bd (F12_refuse s_2 2) fun v_7 s_8 => some (v_7, s_8))
set_option maxRecDepth 20000 in
theorem c12_hand {l : Launch} {D : va_G} {ad : Nat → Nat → Nat → Nat} {cid : Nat → Nat → Nat → ClassId} (σ : Mem) (x1 : Int32) (x2 : Int32) : AMF (XM l D ad cid) M12_hand 2 eI [.ref (ad 12 0 0), .int x1, .int x2] σ (F12_hand σ x1 x2) := by
  refine AM.ofW (by decide +kernel) (Nat.le_of_ble_eq_true rfl) (ls := [(0, .ref (ad 12 0 0)), (1, .int x1), (2, .int x2)]) rfl ?_
  refine aw_entry ?_
  unfold F12_hand
  refine aw_aload_n 0 dX12_hand_0 rfl rfl ?_
  refine aw_iconst 0 dX12_hand_1 (by decide) ?_
  refine aw_putI (fs_12_1 (by decide)) ci_12 (by decide) rfl rfl w_1459 dX12_hand_2 ?_
  refine aw_bndM (fun s_1 => ?_)
  refine aw_aload_n 0 dX12_hand_5 rfl rfl ?_
  refine aw_iconst 0 dX12_hand_6 (by decide) ?_
  refine aw_putI (fs_12_0 (by decide)) ci_12 (by decide) rfl rfl w_1458 dX12_hand_7 ?_
  refine aw_bndM (fun s_2 => ?_)
  refine aw_aload_n 0 dX12_hand_10 rfl rfl ?_
  refine aw_iload_n 1 dX12_hand_11 rfl rfl ?_
  refine aw_callVO_B (c12_isShooterAt s_2 x1) (io_12 (by decide)) ci_12 (by decide) mk_12_isShooterAt w_1945 w_104 w_1943 rfl rfl (Nat.le_of_ble_eq_true rfl) dX12_hand_12 (fun v_3 => ?_)
  refine aw_bif_ne 24 dX12_hand_15 (by decide) ?_ ?_
  · refine aw_iload_n 2 dX12_hand_24 rfl rfl ?_
    refine aw_i2l dX12_hand_25 ?_
    refine aw_lconst 0 dX12_hand_26 (by decide) ?_
    refine aw_ldc2 w_1981 dX12_hand_27 ?_
    refine aw_callST_B (c12_isIn s_2 (Int32.toInt64 x2) 0 3) (by decide) mk_12_isIn w_1754 w_1753 rfl rfl (Nat.le_of_ble_eq_true rfl) dX12_hand_30 ?_
    refine aw_bif_eq 45 dX12_hand_33 (by decide) ?_ ?_
    · refine aw_aload_n 0 dX12_hand_45 rfl rfl ?_
      refine aw_iconst 5 dX12_hand_46 (by decide) ?_
      refine aw_callVW_I (c12_refuse s_2 5) (io_12 (by decide)) ci_12 (by decide) mk_12_refuse w_1921 w_101 w_1919 rfl rfl (Nat.le_of_ble_eq_true rfl) dX12_hand_47 (fun v_4 s_5 => ?_)
      exact aw_ireturn rfl dX12_hand_50
    · refine aw_aload_n 0 dX12_hand_36 rfl rfl ?_
      refine aw_iload_n 1 dX12_hand_37 rfl rfl ?_
      refine aw_iload_n 2 dX12_hand_38 rfl rfl ?_
      refine aw_callVO_I (c12_handOf s_2 x1 x2) (io_12 (by decide)) ci_12 (by decide) mk_12_handOf w_2035 w_114 w_2033 rfl rfl (Nat.le_of_ble_eq_true rfl) dX12_hand_39 (fun v_6 => ?_)
      refine aw_goto 50 dX12_hand_42 (by decide) ?_
      exact aw_ireturn rfl dX12_hand_50
  · refine aw_aload_n 0 dX12_hand_18 rfl rfl ?_
    refine aw_iconst 2 dX12_hand_19 (by decide) ?_
    refine aw_callVW_I (c12_refuse s_2 2) (io_12 (by decide)) ci_12 (by decide) mk_12_refuse w_1921 w_101 w_1919 rfl rfl (Nat.le_of_ble_eq_true rfl) dX12_hand_20 (fun v_7 s_8 => ?_)
    exact aw_ireturn rfl dX12_hand_23
def F12_isShot (σ : Mem) (x1 : Int32) (x2 : Int32) : Option Bool :=
  (F12_isShooterAt σ x1).bind fun v_1 => if v_1 = true then ((F12_isPeaAt σ x2).bind fun v_2 => if v_2 = true then (some true) else (some false)) else (some false)
set_option maxRecDepth 20000 in
theorem c12_isShot {l : Launch} {D : va_G} {ad : Nat → Nat → Nat → Nat} {cid : Nat → Nat → Nat → ClassId} (σ : Mem) (x1 : Int32) (x2 : Int32) : AMF (XM l D ad cid) M12_isShot 2 eB [.ref (ad 12 0 0), .int x1, .int x2] σ (oM σ (F12_isShot σ x1 x2)) := by
  refine AM.ofW (by decide +kernel) (Nat.le_of_ble_eq_true rfl) (ls := [(0, .ref (ad 12 0 0)), (1, .int x1), (2, .int x2)]) rfl ?_
  refine aw_entryO ?_
  unfold F12_isShot
  refine aw_aload_n 0 dX12_isShot_0 rfl rfl ?_
  refine aw_iload_n 1 dX12_isShot_1 rfl rfl ?_
  refine aw_callVO_B (c12_isShooterAt σ x1) (io_12 (by decide)) ci_12 (by decide) mk_12_isShooterAt w_1945 w_104 w_1943 rfl rfl (Nat.le_of_ble_eq_true rfl) dX12_isShot_2 (fun v_1 => ?_)
  refine aw_bif_eq 20 dX12_isShot_5 (by decide) ?_ ?_
  · refine aw_iconst 0 dX12_isShot_20 (by decide) ?_
    exact aw_zreturn (b := false) rfl rfl dX12_isShot_21
  · refine aw_aload_n 0 dX12_isShot_8 rfl rfl ?_
    refine aw_iload_n 2 dX12_isShot_9 rfl rfl ?_
    refine aw_callVO_B (c12_isPeaAt σ x2) (io_12 (by decide)) ci_12 (by decide) mk_12_isPeaAt w_1933 w_102 w_1931 rfl rfl (Nat.le_of_ble_eq_true rfl) dX12_isShot_10 (fun v_2 => ?_)
    refine aw_bif_eq 20 dX12_isShot_13 (by decide) ?_ ?_
    · refine aw_iconst 0 dX12_isShot_20 (by decide) ?_
      exact aw_zreturn (b := false) rfl rfl dX12_isShot_21
    · refine aw_iconst 1 dX12_isShot_16 (by decide) ?_
      refine aw_goto 21 dX12_isShot_17 (by decide) ?_
      exact aw_zreturn (b := true) rfl rfl dX12_isShot_21
def F12_counts_L3 (x1 : Int32) (x2 : Int32) (x3 : Int32) (x4 : Int32) (x5 : Int32) (x6 : Int32) (x7 : Int32) : Nat → Mem → Int32 → Option ((Unit) × Mem)
  | 0 => fun _ _ => none
  | n + 1 => fun σ x8 =>
    if 21 ≤ x8 then (some ((), σ)) else (chk 21 x8 <| bnd (sI σ 12 0 8 (Int32.toNatClampNeg x8) 0) fun s_1 => (F12_counts_L3 x1 x2 x3 x4 x5 x6 x7 n) s_1 (x8 + 1))
set_option maxRecDepth 20000 in
theorem c12_counts_L3 {l : Launch} {D : va_G} {ad : Nat → Nat → Nat → Nat} {cid : Nat → Nat → Nat → ClassId} {α : Type} {emb : α → Option Value} (x1 : Int32) (x2 : Int32) (x3 : Int32) (x4 : Int32) (x5 : Int32) (x6 : Int32) (x7 : Int32) {G : Unit → Mem → Option (α × Mem)} (kx : ∀ r σ, AW (XM l D ad cid) M12_counts 4 emb [(0, .ref (ad 12 0 0)), (1, .int x1), (2, .int x2), (3, .int x3), (4, .int x4), (5, .int x5), (6, .int x6), (7, .int x7)] 24 [] σ (G r σ)) : ∀ (n : Nat) (σ : Mem) (x8 : Int32), AW (XM l D ad cid) M12_counts 4 emb [(0, .ref (ad 12 0 0)), (1, .int x1), (2, .int x2), (3, .int x3), (4, .int x4), (5, .int x5), (6, .int x6), (7, .int x7), (8, .int x8)] 3 [] σ (bd (F12_counts_L3 x1 x2 x3 x4 x5 x6 x7 n σ x8) G) := by
  intro n
  induction n with
  | zero => intros; exact aw_none
  | succ n ih =>
    intro σ x8
    refine aw_bdB ?_
    rw [F12_counts_L3.eq_2]
    refine aw_iload 8 dX12_counts_3 rfl ?_
    refine aw_bipush 21 dX12_counts_5 (by decide) ?_
    refine aw_icmp_ge 24 dX12_counts_7 (by decide) ?_ ?_
    · refine aw_ls (ls' := [(0, .ref (ad 12 0 0)), (1, .int x1), (2, .int x2), (3, .int x3), (4, .int x4), (5, .int x5), (6, .int x6), (7, .int x7)]) [0, 1, 2, 3, 4, 5, 6, 7] rfl ?_
      exact kx () σ
    · refine aw_aload_n 0 dX12_counts_10 rfl rfl ?_
      refine aw_getf (fg_12_32 (by decide)) ci_12 (by decide) w_1490 dX12_counts_11 ?_
      refine aw_iload 8 dX12_counts_14 rfl ?_
      refine aw_iconst 0 dX12_counts_16 (by decide) ?_
      refine aw_iastore (ar_12_8 (by decide)) dX12_counts_17 ?_
      refine aw_bndM (fun s_1 => ?_)
      refine aw_iinc (ls' := [(0, .ref (ad 12 0 0)), (1, .int x1), (2, .int x2), (3, .int x3), (4, .int x4), (5, .int x5), (6, .int x6), (7, .int x7), (8, .int (x8 + 1))]) (x8 + 1) 8 [1, 2, 3, 4, 5, 6, 7, 8, 0] dX12_counts_18 rfl (by rfl) (by decide) rfl ?_
      refine aw_goto 3 dX12_counts_21 (by decide) ?_
      exact ih s_1 (x8 + 1)
def F12_counts_p145 (rc : Mem → Int32 → Option ((Unit) × Mem)) (σ : Mem) (x1 : Int32) (x5 : Int32) (x6 : Int32) (x8 : Int32) (x9 : Int32) (x10 : Int32) (x11 : Int32) (x12 : Int32) (q2 : Int32) (q3 : Int32) (q4 : Int32) : Option ((Unit) × Mem) :=
  (F12_strikeX σ q2 q3 q4 x10).bind fun v_12 => (F12_strikeY σ x1 x6 x11).bind fun v_13 => (F12_pointsOf σ v_12 v_13).bind fun v_14 => (ald 21 (gI σ 12 0 8) v_14).bind fun v_15 => chk 21 v_14 <| bnd (sI σ 12 0 8 (Int32.toNatClampNeg v_14) (v_15 + 1)) fun s_16 => bnd (sI s_16 12 0 0 34 ((gI s_16 12 0 0 34) + v_14)) fun s_17 => rc s_17 (x12 + 1)
set_option maxRecDepth 20000 in
theorem c12_counts_p145 {l : Launch} {D : va_G} {ad : Nat → Nat → Nat → Nat} {cid : Nat → Nat → Nat → ClassId} {α : Type} {emb : α → Option Value}  (x1 : Int32) (x5 : Int32) (x6 : Int32) (x8 : Int32) (x9 : Int32) (x10 : Int32) (x11 : Int32) {G : Unit → Mem → Option (α × Mem)} (kx : ∀ r σ, AW (XM l D ad cid) M12_counts 4 emb [(0, .ref (ad 12 0 0)), (1, .int x1), (5, .int x5), (6, .int x6), (8, .int x8), (9, .int x9), (10, .int x10), (11, .int x11)] 192 [] σ (G r σ)) {rc : Mem → Int32 → Option ((Unit) × Mem)} (ih : ∀ (σ : Mem) (x12 : Int32), AW (XM l D ad cid) M12_counts 4 emb [(0, .ref (ad 12 0 0)), (1, .int x1), (5, .int x5), (6, .int x6), (8, .int x8), (9, .int x9), (10, .int x10), (11, .int x11), (12, .int x12)] 123 [] σ (bd (rc σ x12) G)) (σ : Mem) (x12 : Int32) (q2 : Int32) (q3 : Int32) (q4 : Int32) : AW (XM l D ad cid) M12_counts 4 emb [(0, .ref (ad 12 0 0)), (1, .int x1), (5, .int x5), (6, .int x6), (8, .int x8), (9, .int x9), (10, .int x10), (11, .int x11), (12, .int x12)] 145 [.int q4, .int q3, .int q2, .ref (ad 12 0 0), .ref (ad 12 0 0)] σ ((F12_counts_p145 rc σ x1 x5 x6 x8 x9 x10 x11 x12 q2 q3 q4).bind (fun q => G q.1 q.2)) := by
  unfold F12_counts_p145
  refine aw_iload 6 dX12_counts_145 rfl ?_
  refine aw_callVO_I (c12_strikeX σ q2 q3 q4 x10) (io_12 (by decide)) ci_12 (by decide) mk_12_strikeX w_2002 w_110 w_2000 rfl rfl (Nat.le_of_ble_eq_true rfl) dX12_counts_147 (fun v_12 => ?_)
  refine aw_aload_n 0 dX12_counts_150 rfl rfl ?_
  refine aw_iload_n 1 dX12_counts_151 rfl rfl ?_
  refine aw_iload 3 dX12_counts_152 rfl ?_
  refine aw_iload 7 dX12_counts_154 rfl ?_
  refine aw_callVO_I (c12_strikeY σ x1 x6 x11) (io_12 (by decide)) ci_12 (by decide) mk_12_strikeY w_2006 w_111 w_2004 rfl rfl (Nat.le_of_ble_eq_true rfl) dX12_counts_156 (fun v_13 => ?_)
  refine aw_callVO_I (c12_pointsOf σ v_12 v_13) (io_12 (by decide)) ci_12 (by decide) mk_12_pointsOf w_2019 w_112 w_2017 rfl rfl (Nat.le_of_ble_eq_true rfl) dX12_counts_159 (fun v_14 => ?_)
  refine aw_istore (ls' := [(0, .ref (ad 12 0 0)), (1, .int x1), (5, .int x5), (6, .int x6), (8, .int x8), (9, .int x9), (10, .int x10), (11, .int x11), (12, .int x12), (13, .int v_14)]) [1, 2, 3, 4, 5, 6, 7, 8, 9, 0] dX12_counts_162 (by decide) rfl ?_
  refine aw_aload_n 0 dX12_counts_164 rfl rfl ?_
  refine aw_getf (fg_12_32 (by decide)) ci_12 (by decide) w_1490 dX12_counts_165 ?_
  refine aw_iload 9 dX12_counts_168 rfl ?_
  refine aw_dup2_11 dX12_counts_170 rfl rfl ?_
  refine aw_iaload (ar_12_8 (by decide)) dX12_counts_171 (fun v_15 => ?_)
  refine aw_iconst 1 dX12_counts_172 (by decide) ?_
  refine aw_iadd dX12_counts_173 ?_
  refine aw_iastore (ar_12_8 (by decide)) dX12_counts_174 ?_
  refine aw_bndM (fun s_16 => ?_)
  refine aw_aload_n 0 dX12_counts_175 rfl rfl ?_
  refine aw_dup dX12_counts_176 rfl ?_
  refine aw_getf (fg_12_34 (by decide)) ci_12 (by decide) w_1492 dX12_counts_177 ?_
  refine aw_iload 9 dX12_counts_180 rfl ?_
  refine aw_iadd dX12_counts_182 ?_
  refine aw_putI (fs_12_34 (by decide)) ci_12 (by decide) rfl rfl w_1492 dX12_counts_183 ?_
  refine aw_bndM (fun s_17 => ?_)
  refine aw_iinc (ls' := [(0, .ref (ad 12 0 0)), (1, .int x1), (5, .int x5), (6, .int x6), (8, .int x8), (9, .int x9), (10, .int x10), (11, .int x11), (12, .int (x12 + 1))]) (x12 + 1) 8 [1, 2, 3, 4, 5, 6, 7, 8, 0] dX12_counts_186 rfl (by rfl) (by decide) rfl ?_
  refine aw_goto 123 dX12_counts_189 (by decide) ?_
  exact ih s_17 (x12 + 1)
def F12_counts_L123 (x1 : Int32) (x5 : Int32) (x6 : Int32) (x8 : Int32) (x9 : Int32) (x10 : Int32) (x11 : Int32) : Nat → Mem → Int32 → Option ((Unit) × Mem)
  | 0 => fun _ _ => none
  | n + 1 => fun σ x12 =>
    if x9 ≤ x12 then (some ((), σ)) else (if x12 = 0 then (F12_counts_p145 (F12_counts_L123 x1 x5 x6 x8 x9 x10 x11 n) σ x1 x5 x6 x8 x9 x10 x11 x12 x1 x5 1) else (F12_counts_p145 (F12_counts_L123 x1 x5 x6 x8 x9 x10 x11 n) σ x1 x5 x6 x8 x9 x10 x11 x12 x1 x5 (-1)))
set_option maxRecDepth 20000 in
theorem c12_counts_L123 {l : Launch} {D : va_G} {ad : Nat → Nat → Nat → Nat} {cid : Nat → Nat → Nat → ClassId} {α : Type} {emb : α → Option Value} (x1 : Int32) (x5 : Int32) (x6 : Int32) (x8 : Int32) (x9 : Int32) (x10 : Int32) (x11 : Int32) {G : Unit → Mem → Option (α × Mem)} (kx : ∀ r σ, AW (XM l D ad cid) M12_counts 4 emb [(0, .ref (ad 12 0 0)), (1, .int x1), (5, .int x5), (6, .int x6), (8, .int x8), (9, .int x9), (10, .int x10), (11, .int x11)] 192 [] σ (G r σ)) : ∀ (n : Nat) (σ : Mem) (x12 : Int32), AW (XM l D ad cid) M12_counts 4 emb [(0, .ref (ad 12 0 0)), (1, .int x1), (5, .int x5), (6, .int x6), (8, .int x8), (9, .int x9), (10, .int x10), (11, .int x11), (12, .int x12)] 123 [] σ (bd (F12_counts_L123 x1 x5 x6 x8 x9 x10 x11 n σ x12) G) := by
  intro n
  induction n with
  | zero => intros; exact aw_none
  | succ n ih =>
    intro σ x12
    refine aw_bdB ?_
    rw [F12_counts_L123.eq_2]
    refine aw_iload 8 dX12_counts_123 rfl ?_
    refine aw_iload 5 dX12_counts_125 rfl ?_
    refine aw_icmp_ge 192 dX12_counts_127 (by decide) ?_ ?_
    · refine aw_ls (ls' := [(0, .ref (ad 12 0 0)), (1, .int x1), (5, .int x5), (6, .int x6), (8, .int x8), (9, .int x9), (10, .int x10), (11, .int x11)]) [0, 1, 2, 3, 4, 5, 6, 7] rfl ?_
      exact kx () σ
    · refine aw_aload_n 0 dX12_counts_130 rfl rfl ?_
      refine aw_aload_n 0 dX12_counts_131 rfl rfl ?_
      refine aw_iload_n 1 dX12_counts_132 rfl rfl ?_
      refine aw_iload 2 dX12_counts_133 rfl ?_
      refine aw_iload 8 dX12_counts_135 rfl ?_
      refine aw_if_ne 144 dX12_counts_137 (by decide) ?_ ?_
      · refine aw_iconst (-1) dX12_counts_144 (by decide) ?_
        exact c12_counts_p145 x1 x5 x6 x8 x9 x10 x11 kx ih σ x12 x1 x5 (-1)
      · refine aw_iconst 1 dX12_counts_140 (by decide) ?_
        refine aw_goto 145 dX12_counts_141 (by decide) ?_
        exact c12_counts_p145 x1 x5 x6 x8 x9 x10 x11 kx ih σ x12 x1 x5 1
def F12_counts_L113 (x1 : Int32) (x5 : Int32) (x6 : Int32) (x8 : Int32) (x9 : Int32) (x10 : Int32) : Nat → Mem → Int32 → Option ((Unit) × Mem)
  | 0 => fun _ _ => none
  | n + 1 => fun σ x11 =>
    if x8 < x11 then (some ((), σ)) else (bd (F12_counts_L123 x1 x5 x6 x8 x9 x10 x11 fuelK σ 0) fun r_18 s_19 => (F12_counts_L113 x1 x5 x6 x8 x9 x10 n) s_19 (x11 + 1))
set_option maxRecDepth 20000 in
theorem c12_counts_L113 {l : Launch} {D : va_G} {ad : Nat → Nat → Nat → Nat} {cid : Nat → Nat → Nat → ClassId} {α : Type} {emb : α → Option Value} (x1 : Int32) (x5 : Int32) (x6 : Int32) (x8 : Int32) (x9 : Int32) (x10 : Int32) {G : Unit → Mem → Option (α × Mem)} (kx : ∀ r σ, AW (XM l D ad cid) M12_counts 4 emb [(0, .ref (ad 12 0 0)), (1, .int x1), (5, .int x5), (6, .int x6), (8, .int x8), (9, .int x9), (10, .int x10)] 198 [] σ (G r σ)) : ∀ (n : Nat) (σ : Mem) (x11 : Int32), AW (XM l D ad cid) M12_counts 4 emb [(0, .ref (ad 12 0 0)), (1, .int x1), (5, .int x5), (6, .int x6), (8, .int x8), (9, .int x9), (10, .int x10), (11, .int x11)] 113 [] σ (bd (F12_counts_L113 x1 x5 x6 x8 x9 x10 n σ x11) G) := by
  intro n
  induction n with
  | zero => intros; exact aw_none
  | succ n ih =>
    intro σ x11
    refine aw_bdB ?_
    rw [F12_counts_L113.eq_2]
    refine aw_iload 7 dX12_counts_113 rfl ?_
    refine aw_iload 4 dX12_counts_115 rfl ?_
    refine aw_icmp_gt 198 dX12_counts_117 (by decide) ?_ ?_
    · refine aw_ls (ls' := [(0, .ref (ad 12 0 0)), (1, .int x1), (5, .int x5), (6, .int x6), (8, .int x8), (9, .int x9), (10, .int x10)]) [0, 1, 2, 3, 4, 5, 6] rfl ?_
      exact kx () σ
    · refine aw_iconst 0 dX12_counts_120 (by decide) ?_
      refine aw_istore (ls' := [(0, .ref (ad 12 0 0)), (1, .int x1), (5, .int x5), (6, .int x6), (8, .int x8), (9, .int x9), (10, .int x10), (11, .int x11), (12, .int 0)]) [1, 2, 3, 4, 5, 6, 7, 8, 0] dX12_counts_121 (by decide) rfl ?_
      refine aw_assocW ?_
      refine c12_counts_L123 x1 x5 x6 x8 x9 x10 x11 (fun r_18 s_19 => ?_) fuelK σ 0
      refine aw_iinc (ls' := [(0, .ref (ad 12 0 0)), (1, .int x1), (5, .int x5), (6, .int x6), (8, .int x8), (9, .int x9), (10, .int x10), (11, .int (x11 + 1))]) (x11 + 1) 7 [1, 2, 3, 4, 5, 6, 7, 0] dX12_counts_192 rfl (by rfl) (by decide) rfl ?_
      refine aw_goto 113 dX12_counts_195 (by decide) ?_
      exact ih s_19 (x11 + 1)
def F12_counts_L101 (x1 : Int32) (x5 : Int32) (x6 : Int32) (x8 : Int32) (x9 : Int32) : Nat → Mem → Int32 → Option ((Unit) × Mem)
  | 0 => fun _ _ => none
  | n + 1 => fun σ x10 =>
    if x8 < x10 then (some ((), σ)) else (bnd (-x8) fun v_11 => bd (F12_counts_L113 x1 x5 x6 x8 x9 x10 fuelK σ v_11) fun r_20 s_21 => (F12_counts_L101 x1 x5 x6 x8 x9 n) s_21 (x10 + 1))
set_option maxRecDepth 20000 in
theorem c12_counts_L101 {l : Launch} {D : va_G} {ad : Nat → Nat → Nat → Nat} {cid : Nat → Nat → Nat → ClassId} {α : Type} {emb : α → Option Value} (x1 : Int32) (x5 : Int32) (x6 : Int32) (x8 : Int32) (x9 : Int32) {G : Unit → Mem → Option (α × Mem)} (kx : ∀ r σ, AW (XM l D ad cid) M12_counts 4 emb [] 204 [] σ (G r σ)) : ∀ (n : Nat) (σ : Mem) (x10 : Int32), AW (XM l D ad cid) M12_counts 4 emb [(0, .ref (ad 12 0 0)), (1, .int x1), (5, .int x5), (6, .int x6), (8, .int x8), (9, .int x9), (10, .int x10)] 101 [] σ (bd (F12_counts_L101 x1 x5 x6 x8 x9 n σ x10) G) := by
  intro n
  induction n with
  | zero => intros; exact aw_none
  | succ n ih =>
    intro σ x10
    refine aw_bdB ?_
    rw [F12_counts_L101.eq_2]
    refine aw_iload 6 dX12_counts_101 rfl ?_
    refine aw_iload 4 dX12_counts_103 rfl ?_
    refine aw_icmp_gt 204 dX12_counts_105 (by decide) ?_ ?_
    · refine aw_ls (ls' := []) [] rfl ?_
      exact kx () σ
    · refine aw_iload 4 dX12_counts_108 rfl ?_
      refine aw_ineg dX12_counts_110 ?_
      refine aw_bnd_int (fun v_11 => ?_)
      refine aw_istore (ls' := [(0, .ref (ad 12 0 0)), (1, .int x1), (5, .int x5), (6, .int x6), (8, .int x8), (9, .int x9), (10, .int x10), (11, .int v_11)]) [1, 2, 3, 4, 5, 6, 7, 0] dX12_counts_111 (by decide) rfl ?_
      refine aw_assocW ?_
      refine c12_counts_L113 x1 x5 x6 x8 x9 x10 (fun r_20 s_21 => ?_) fuelK σ v_11
      refine aw_iinc (ls' := [(0, .ref (ad 12 0 0)), (1, .int x1), (5, .int x5), (6, .int x6), (8, .int x8), (9, .int x9), (10, .int (x10 + 1))]) (x10 + 1) 6 [1, 2, 3, 4, 5, 6, 0] dX12_counts_198 rfl (by rfl) (by decide) rfl ?_
      refine aw_goto 101 dX12_counts_201 (by decide) ?_
      exact ih s_21 (x10 + 1)
def F12_counts_p74 (σ : Mem) (x1 : Int32) (x5 : Int32) (x6 : Int32) (x8 : Int32) (q0 : Int32) : Option (Unit × Mem) :=
  bnd (sI σ 12 0 0 33 ((((2 * x8) + 1) * ((2 * x8) + 1)) * q0)) fun s_9 => bnd (-x8) fun v_10 => bd (F12_counts_L101 x1 x5 x6 x8 q0 fuelK s_9 v_10) fun r_22 s_23 => some ((), s_23)
set_option maxRecDepth 20000 in
theorem c12_counts_p74 {l : Launch} {D : va_G} {ad : Nat → Nat → Nat → Nat} {cid : Nat → Nat → Nat → ClassId} (σ : Mem) (x1 : Int32) (x5 : Int32) (x6 : Int32) (x8 : Int32) (q0 : Int32) : AW (XM l D ad cid) M12_counts 4 eU [(0, .ref (ad 12 0 0)), (1, .int x1), (5, .int x5), (6, .int x6), (8, .int x8)] 74 [.int q0] σ ((F12_counts_p74 σ x1 x5 x6 x8 q0).bind some) := by
  unfold F12_counts_p74
  refine aw_istore (ls' := [(0, .ref (ad 12 0 0)), (1, .int x1), (5, .int x5), (6, .int x6), (8, .int x8), (9, .int q0)]) [1, 2, 3, 4, 5, 0] dX12_counts_74 (by decide) rfl ?_
  refine aw_aload_n 0 dX12_counts_76 rfl rfl ?_
  refine aw_iconst 2 dX12_counts_77 (by decide) ?_
  refine aw_iload 4 dX12_counts_78 rfl ?_
  refine aw_imul dX12_counts_80 ?_
  refine aw_iconst 1 dX12_counts_81 (by decide) ?_
  refine aw_iadd dX12_counts_82 ?_
  refine aw_iconst 2 dX12_counts_83 (by decide) ?_
  refine aw_iload 4 dX12_counts_84 rfl ?_
  refine aw_imul dX12_counts_86 ?_
  refine aw_iconst 1 dX12_counts_87 (by decide) ?_
  refine aw_iadd dX12_counts_88 ?_
  refine aw_imul dX12_counts_89 ?_
  refine aw_iload 5 dX12_counts_90 rfl ?_
  refine aw_imul dX12_counts_92 ?_
  refine aw_putI (fs_12_33 (by decide)) ci_12 (by decide) rfl rfl w_1491 dX12_counts_93 ?_
  refine aw_bndM (fun s_9 => ?_)
  refine aw_iload 4 dX12_counts_96 rfl ?_
  refine aw_ineg dX12_counts_98 ?_
  refine aw_bnd_int (fun v_10 => ?_)
  refine aw_istore (ls' := [(0, .ref (ad 12 0 0)), (1, .int x1), (5, .int x5), (6, .int x6), (8, .int x8), (9, .int q0), (10, .int v_10)]) [1, 2, 3, 4, 5, 6, 0] dX12_counts_99 (by decide) rfl ?_
  refine aw_assocW ?_
  refine c12_counts_L101 x1 x5 x6 x8 q0 (fun r_22 s_23 => ?_) fuelK s_9 v_10
  exact aw_return rfl dX12_counts_204
def F12_counts (σ : Mem) (x1 : Int32) (x2 : Int32) (x3 : Int32) (x4 : Int32) (x5 : Int32) (x6 : Int32) (x7 : Int32) : Option (Unit × Mem) :=
  bd (F12_counts_L3 x1 x2 x3 x4 x5 x6 x7 fuelK σ 0) fun r_2 s_3 => bnd (sI s_3 12 0 0 33 1) fun s_4 => bnd (sI s_4 12 0 0 34 0) fun s_5 => bd (F12_flies s_5 x2 x3 x7) fun v_6 s_7 => if v_6 = true then ((F12_handOf s_7 x1 x4).bind fun v_8 => if (gI s_7 12 0 0 31) ≤ 0 then (F12_counts_p74 s_7 x1 x5 x6 v_8 1) else (F12_counts_p74 s_7 x1 x5 x6 v_8 2)) else (chk 21 0 <| bnd (sI s_7 12 0 8 (Int32.toNatClampNeg 0) 1) fun s_24 => some ((), s_24))
set_option maxRecDepth 20000 in
theorem c12_counts {l : Launch} {D : va_G} {ad : Nat → Nat → Nat → Nat} {cid : Nat → Nat → Nat → ClassId} (σ : Mem) (x1 : Int32) (x2 : Int32) (x3 : Int32) (x4 : Int32) (x5 : Int32) (x6 : Int32) (x7 : Int32) : AMF (XM l D ad cid) M12_counts 4 eU [.ref (ad 12 0 0), .int x1, .int x2, .int x3, .int x4, .int x5, .int x6, .int x7] σ (F12_counts σ x1 x2 x3 x4 x5 x6 x7) := by
  refine AM.ofW (by decide +kernel) (Nat.le_of_ble_eq_true rfl) (ls := [(0, .ref (ad 12 0 0)), (1, .int x1), (2, .int x2), (3, .int x3), (4, .int x4), (5, .int x5), (6, .int x6), (7, .int x7)]) rfl ?_
  refine aw_entry ?_
  unfold F12_counts
  refine aw_iconst 0 dX12_counts_0 (by decide) ?_
  refine aw_istore (ls' := [(0, .ref (ad 12 0 0)), (1, .int x1), (2, .int x2), (3, .int x3), (4, .int x4), (5, .int x5), (6, .int x6), (7, .int x7), (8, .int 0)]) [1, 2, 3, 4, 5, 6, 7, 8, 0] dX12_counts_1 (by decide) rfl ?_
  refine aw_assocW ?_
  refine c12_counts_L3 x1 x2 x3 x4 x5 x6 x7 (fun r_2 s_3 => ?_) fuelK σ 0
  refine aw_aload_n 0 dX12_counts_24 rfl rfl ?_
  refine aw_iconst 1 dX12_counts_25 (by decide) ?_
  refine aw_putI (fs_12_33 (by decide)) ci_12 (by decide) rfl rfl w_1491 dX12_counts_26 ?_
  refine aw_bndM (fun s_4 => ?_)
  refine aw_aload_n 0 dX12_counts_29 rfl rfl ?_
  refine aw_iconst 0 dX12_counts_30 (by decide) ?_
  refine aw_putI (fs_12_34 (by decide)) ci_12 (by decide) rfl rfl w_1492 dX12_counts_31 ?_
  refine aw_bndM (fun s_5 => ?_)
  refine aw_aload_n 0 dX12_counts_34 rfl rfl ?_
  refine aw_iload_n 2 dX12_counts_35 rfl rfl ?_
  refine aw_iload_n 3 dX12_counts_36 rfl rfl ?_
  refine aw_iload 7 dX12_counts_37 rfl ?_
  refine aw_callVW_B (c12_flies s_5 x2 x3 x7) (io_12 (by decide)) ci_12 (by decide) mk_12_flies w_1984 w_109 w_1982 rfl rfl (Nat.le_of_ble_eq_true rfl) dX12_counts_39 (fun v_6 s_7 => ?_)
  refine aw_bif_ne 53 dX12_counts_42 (by decide) ?_ ?_
  · refine aw_aload_n 0 dX12_counts_53 rfl rfl ?_
    refine aw_iload_n 1 dX12_counts_54 rfl rfl ?_
    refine aw_iload 4 dX12_counts_55 rfl ?_
    refine aw_callVO_I (c12_handOf s_7 x1 x4) (io_12 (by decide)) ci_12 (by decide) mk_12_handOf w_2035 w_114 w_2033 rfl rfl (Nat.le_of_ble_eq_true rfl) dX12_counts_57 (fun v_8 => ?_)
    refine aw_istore (ls' := [(0, .ref (ad 12 0 0)), (1, .int x1), (5, .int x5), (6, .int x6), (8, .int v_8)]) [1, 2, 6, 7, 0] dX12_counts_60 (by decide) rfl ?_
    refine aw_aload_n 0 dX12_counts_62 rfl rfl ?_
    refine aw_getf (fg_12_31 (by decide)) ci_12 (by decide) w_1489 dX12_counts_63 ?_
    refine aw_if_le 73 dX12_counts_66 (by decide) ?_ ?_
    · refine aw_iconst 1 dX12_counts_73 (by decide) ?_
      exact c12_counts_p74 s_7 x1 x5 x6 v_8 1
    · refine aw_iconst 2 dX12_counts_69 (by decide) ?_
      refine aw_goto 74 dX12_counts_70 (by decide) ?_
      exact c12_counts_p74 s_7 x1 x5 x6 v_8 2
  · refine aw_aload_n 0 dX12_counts_45 rfl rfl ?_
    refine aw_getf (fg_12_32 (by decide)) ci_12 (by decide) w_1490 dX12_counts_46 ?_
    refine aw_iconst 0 dX12_counts_49 (by decide) ?_
    refine aw_iconst 1 dX12_counts_50 (by decide) ?_
    refine aw_iastore (ar_12_8 (by decide)) dX12_counts_51 ?_
    refine aw_bndM (fun s_24 => ?_)
    exact aw_return rfl dX12_counts_52
def F12_fraction_L9 (σ : Mem) (y1 : Int64) (y3 : Int64) : Nat → Int64 → Int64 → Option (Int64)
  | 0 => fun _ _ => none
  | n + 1 => fun y5 y7 =>
    if y7 = 0 then (some y5) else (if y7 = 0 then none else bnd (lRem y5 y7) fun v_2 => (F12_fraction_L9 σ y1 y3 n) y7 v_2)
set_option maxRecDepth 20000 in
theorem c12_fraction_L9 {l : Launch} {D : va_G} {ad : Nat → Nat → Nat → Nat} {cid : Nat → Nat → Nat → ClassId} {α : Type} {emb : α → Option Value} (σ : Mem) (y1 : Int64) (y3 : Int64) {G : Int64 → Option (α × Mem)} (kx : ∀ r, AW (XM l D ad cid) M12_fraction 0 emb [(0, .ref (ad 12 0 0)), (1, .long y1), (3, .long y3), (5, .long r)] 34 [] σ (G r)) : ∀ (n : Nat) (y5 : Int64) (y7 : Int64), AW (XM l D ad cid) M12_fraction 0 emb [(0, .ref (ad 12 0 0)), (1, .long y1), (3, .long y3), (5, .long y5), (7, .long y7)] 9 [] σ ((F12_fraction_L9 σ y1 y3 n y5 y7).bind G) := by
  intro n
  induction n with
  | zero => intros; exact aw_none
  | succ n ih =>
    intro y5 y7
    rw [F12_fraction_L9.eq_2]
    refine aw_lload 4 dX12_fraction_9 rfl ?_
    refine aw_lconst 0 dX12_fraction_11 (by decide) ?_
    refine aw_lcmp dX12_fraction_12 ?_
    refine aw_lif_eq 34 dX12_fraction_13 (by decide) ?_ ?_
    · refine aw_ls (ls' := [(0, .ref (ad 12 0 0)), (1, .long y1), (3, .long y3), (5, .long y5)]) [0, 1, 2, 3] rfl ?_
      exact kx y5
    · refine aw_lload 3 dX12_fraction_16 rfl ?_
      refine aw_lload 4 dX12_fraction_18 rfl ?_
      refine aw_lrem dX12_fraction_20 ?_
      refine aw_bnd_long (fun v_2 => ?_)
      refine aw_lstore (ls' := [(0, .ref (ad 12 0 0)), (1, .long y1), (3, .long y3), (7, .long y7), (9, .long v_2)]) [1, 2, 3, 5, 0] dX12_fraction_21 (by decide) rfl ?_
      refine aw_lload 3 dX12_fraction_23 rfl ?_
      refine aw_lstore (ls' := [(0, .ref (ad 12 0 0)), (1, .long y1), (3, .long y3), (5, .long y7), (9, .long v_2)]) [1, 2, 3, 0, 5] dX12_fraction_25 (by decide) rfl ?_
      refine aw_lload 4 dX12_fraction_27 rfl ?_
      refine aw_lstore (ls' := [(0, .ref (ad 12 0 0)), (1, .long y1), (3, .long y3), (5, .long y7), (7, .long v_2)]) [1, 2, 3, 4, 0] dX12_fraction_29 (by decide) rfl ?_
      refine aw_goto 9 dX12_fraction_31 (by decide) ?_
      exact ih y7 v_2
def F12_fraction (σ : Mem) (y1 : Int64) (y3 : Int64) : Option (Bool × Mem) :=
  bnd (lAbs y1) fun v_1 => (F12_fraction_L9 σ y1 y3 fuelK v_1 y3).bind fun r_3 => if r_3 = 0 then none else bnd (sL σ 12 0 0 2 (y1 / r_3)) fun s_4 => if r_3 = 0 then none else bnd (sL s_4 12 0 0 3 (y3 / r_3)) fun s_5 => some (true, s_5)
set_option maxRecDepth 20000 in
theorem c12_fraction {l : Launch} {D : va_G} {ad : Nat → Nat → Nat → Nat} {cid : Nat → Nat → Nat → ClassId} (σ : Mem) (y1 : Int64) (y3 : Int64) : AMF (XM l D ad cid) M12_fraction 0 eB [.ref (ad 12 0 0), .long y1, .long y3] σ (F12_fraction σ y1 y3) := by
  refine AM.ofW (by decide +kernel) (Nat.le_of_ble_eq_true rfl) (ls := [(0, .ref (ad 12 0 0)), (1, .long y1), (3, .long y3)]) rfl ?_
  refine aw_entry ?_
  unfold F12_fraction
  refine aw_lload_n 1 dX12_fraction_0 rfl rfl ?_
  refine aw_labs w_2054 w_1177 w_159 w_1178 (Nat.le_of_ble_eq_true rfl) dX12_fraction_1 ?_
  refine aw_bnd_long (fun v_1 => ?_)
  refine aw_lstore (ls' := [(0, .ref (ad 12 0 0)), (1, .long y1), (3, .long y3), (5, .long v_1)]) [1, 2, 3, 0] dX12_fraction_4 (by decide) rfl ?_
  refine aw_lload_n 2 dX12_fraction_6 rfl rfl ?_
  refine aw_lstore (ls' := [(0, .ref (ad 12 0 0)), (1, .long y1), (3, .long y3), (5, .long v_1), (7, .long y3)]) [1, 2, 3, 4, 0] dX12_fraction_7 (by decide) rfl ?_
  refine aw_assoc ?_
  refine c12_fraction_L9 σ y1 y3 (fun r_3 => ?_) fuelK v_1 y3
  refine aw_aload_n 0 dX12_fraction_34 rfl rfl ?_
  refine aw_lload_n 1 dX12_fraction_35 rfl rfl ?_
  refine aw_lload 3 dX12_fraction_36 rfl ?_
  refine aw_ldiv dX12_fraction_38 ?_
  refine aw_putL (fs_12_2 (by decide)) ci_12 (by decide) rfl rfl w_1460 dX12_fraction_39 ?_
  refine aw_bndM (fun s_4 => ?_)
  refine aw_aload_n 0 dX12_fraction_42 rfl rfl ?_
  refine aw_lload_n 2 dX12_fraction_43 rfl rfl ?_
  refine aw_lload 3 dX12_fraction_44 rfl ?_
  refine aw_ldiv dX12_fraction_46 ?_
  refine aw_putL (fs_12_3 (by decide)) ci_12 (by decide) rfl rfl w_1461 dX12_fraction_47 ?_
  refine aw_bndM (fun s_5 => ?_)
  refine aw_iconst 1 dX12_fraction_50 (by decide) ?_
  exact aw_zreturn (b := true) rfl rfl dX12_fraction_51
def F12_odds_L110 (σ : Mem)  : Nat → Int32 → Int32 → Option (Int32)
  | 0 => fun _ _ => none
  | n + 1 => fun x8 x9 =>
    if 21 ≤ x9 then (some x8) else ((ald 21 (gI σ 12 0 8) x9).bind fun v_13 => bnd (x8 + v_13) fun v_14 => (F12_odds_L110 σ n) v_14 (x9 + 1))
set_option maxRecDepth 20000 in
theorem c12_odds_L110 {l : Launch} {D : va_G} {ad : Nat → Nat → Nat → Nat} {cid : Nat → Nat → Nat → ClassId} {α : Type} {emb : α → Option Value} (σ : Mem)  {G : Int32 → Option (α × Mem)} (kx : ∀ r, AW (XM l D ad cid) M12_odds 5 emb [(0, .ref (ad 12 0 0)), (8, .int r)] 135 [] σ (G r)) : ∀ (n : Nat) (x8 : Int32) (x9 : Int32), AW (XM l D ad cid) M12_odds 5 emb [(0, .ref (ad 12 0 0)), (8, .int x8), (9, .int x9)] 110 [] σ ((F12_odds_L110 σ  n x8 x9).bind G) := by
  intro n
  induction n with
  | zero => intros; exact aw_none
  | succ n ih =>
    intro x8 x9
    rw [F12_odds_L110.eq_2]
    refine aw_iload 2 dX12_odds_110 rfl ?_
    refine aw_bipush 21 dX12_odds_112 (by decide) ?_
    refine aw_icmp_ge 135 dX12_odds_114 (by decide) ?_ ?_
    · refine aw_ls (ls' := [(0, .ref (ad 12 0 0)), (8, .int x8)]) [0, 1] rfl ?_
      exact kx x8
    · refine aw_iload 1 dX12_odds_117 rfl ?_
      refine aw_aload_n 0 dX12_odds_119 rfl rfl ?_
      refine aw_getf (fg_12_32 (by decide)) ci_12 (by decide) w_1490 dX12_odds_120 ?_
      refine aw_iload 2 dX12_odds_123 rfl ?_
      refine aw_iaload (ar_12_8 (by decide)) dX12_odds_125 (fun v_13 => ?_)
      refine aw_iadd dX12_odds_126 ?_
      refine aw_bnd_int (fun v_14 => ?_)
      refine aw_istore (ls' := [(0, .ref (ad 12 0 0)), (8, .int v_14), (9, .int x9)]) [1, 0, 2] dX12_odds_127 (by decide) rfl ?_
      refine aw_iinc (ls' := [(0, .ref (ad 12 0 0)), (8, .int v_14), (9, .int (x9 + 1))]) (x9 + 1) 2 [1, 2, 0] dX12_odds_129 rfl (by rfl) (by decide) rfl ?_
      refine aw_goto 110 dX12_odds_132 (by decide) ?_
      exact ih v_14 (x9 + 1)
def F12_odds (σ : Mem) (x1 : Int32) (x2 : Int32) (x3 : Int32) (x4 : Int32) (x5 : Int32) (x6 : Int32) (x7 : Int32) : Option (Bool × Mem) :=
  bnd (sI σ 12 0 0 1 0) fun s_1 => bnd (sI s_1 12 0 0 0 0) fun s_2 => (F12_isShot s_2 x1 x2).bind fun v_3 => if v_3 = true then ((ald 3000 (gI s_2 12 0 5) (53 + x1)).bind fun v_4 => if (F12_isPuffing x3 v_4) = true then (if (F12_isIn (Int32.toInt64 x4) 0 3) = true then (if (F12_isAim x5 x6) = true then (if (F12_isIn (Int32.toInt64 x7) 1 20) = true then ((ald 3000 (gI s_2 12 0 5) 7).bind fun v_11 => bd (F12_counts s_2 x1 x2 x3 x4 x5 x6 v_11) fun _ s_12 => (F12_odds_L110 s_12  fuelK 0 x7).bind fun r_15 => bd (F12_fraction s_12 (Int32.toInt64 r_15) (Int32.toInt64 (gI s_12 12 0 0 33))) fun v_16 s_17 => some (v_16, s_17)) else (bd (F12_no s_2 5) fun v_18 s_19 => some (v_18, s_19))) else (bd (F12_no s_2 5) fun v_9 s_10 => some (v_9, s_10))) else (bd (F12_no s_2 5) fun v_7 s_8 => some (v_7, s_8))) else (bd (F12_no s_2 5) fun v_5 s_6 => some (v_5, s_6))) else (bd (F12_no s_2 2) fun v_20 s_21 => some (v_20, s_21))
set_option maxRecDepth 20000 in
theorem c12_odds {l : Launch} {D : va_G} {ad : Nat → Nat → Nat → Nat} {cid : Nat → Nat → Nat → ClassId} (σ : Mem) (x1 : Int32) (x2 : Int32) (x3 : Int32) (x4 : Int32) (x5 : Int32) (x6 : Int32) (x7 : Int32) : AMF (XM l D ad cid) M12_odds 5 eB [.ref (ad 12 0 0), .int x1, .int x2, .int x3, .int x4, .int x5, .int x6, .int x7] σ (F12_odds σ x1 x2 x3 x4 x5 x6 x7) := by
  refine AM.ofW (by decide +kernel) (Nat.le_of_ble_eq_true rfl) (ls := [(0, .ref (ad 12 0 0)), (1, .int x1), (2, .int x2), (3, .int x3), (4, .int x4), (5, .int x5), (6, .int x6), (7, .int x7)]) rfl ?_
  refine aw_entry ?_
  unfold F12_odds
  refine aw_aload_n 0 dX12_odds_0 rfl rfl ?_
  refine aw_iconst 0 dX12_odds_1 (by decide) ?_
  refine aw_putI (fs_12_1 (by decide)) ci_12 (by decide) rfl rfl w_1459 dX12_odds_2 ?_
  refine aw_bndM (fun s_1 => ?_)
  refine aw_aload_n 0 dX12_odds_5 rfl rfl ?_
  refine aw_iconst 0 dX12_odds_6 (by decide) ?_
  refine aw_putI (fs_12_0 (by decide)) ci_12 (by decide) rfl rfl w_1458 dX12_odds_7 ?_
  refine aw_bndM (fun s_2 => ?_)
  refine aw_aload_n 0 dX12_odds_10 rfl rfl ?_
  refine aw_iload_n 1 dX12_odds_11 rfl rfl ?_
  refine aw_iload_n 2 dX12_odds_12 rfl rfl ?_
  refine aw_callVO_B (c12_isShot s_2 x1 x2) (io_12 (by decide)) ci_12 (by decide) mk_12_isShot w_2044 w_115 w_2042 rfl rfl (Nat.le_of_ble_eq_true rfl) dX12_odds_13 (fun v_3 => ?_)
  refine aw_bif_ne 25 dX12_odds_16 (by decide) ?_ ?_
  · refine aw_iload_n 3 dX12_odds_25 rfl rfl ?_
    refine aw_aload_n 0 dX12_odds_26 rfl rfl ?_
    refine aw_getf (fg_12_20 (by decide)) ci_12 (by decide) w_1478 dX12_odds_27 ?_
    refine aw_bipush 53 dX12_odds_30 (by decide) ?_
    refine aw_iload_n 1 dX12_odds_32 rfl rfl ?_
    refine aw_iadd dX12_odds_33 ?_
    refine aw_iaload (ar_12_5 (by decide)) dX12_odds_34 (fun v_4 => ?_)
    refine aw_callST_B (c12_isPuffing s_2 x3 v_4) (by decide) mk_12_isPuffing w_1963 w_1962 rfl rfl (Nat.le_of_ble_eq_true rfl) dX12_odds_35 ?_
    refine aw_bif_eq 77 dX12_odds_38 (by decide) ?_ ?_
    · refine aw_aload_n 0 dX12_odds_77 rfl rfl ?_
      refine aw_iconst 5 dX12_odds_78 (by decide) ?_
      refine aw_callVW_B (c12_no s_2 5) (io_12 (by decide)) ci_12 (by decide) mk_12_no w_1660 w_49 w_1658 rfl rfl (Nat.le_of_ble_eq_true rfl) dX12_odds_79 (fun v_5 s_6 => ?_)
      exact aw_zreturn (b := v_5) rfl rfl dX12_odds_82
    · refine aw_iload 4 dX12_odds_41 rfl ?_
      refine aw_i2l dX12_odds_43 ?_
      refine aw_lconst 0 dX12_odds_44 (by decide) ?_
      refine aw_ldc2 w_1981 dX12_odds_45 ?_
      refine aw_callST_B (c12_isIn s_2 (Int32.toInt64 x4) 0 3) (by decide) mk_12_isIn w_1754 w_1753 rfl rfl (Nat.le_of_ble_eq_true rfl) dX12_odds_48 ?_
      refine aw_bif_eq 77 dX12_odds_51 (by decide) ?_ ?_
      · refine aw_aload_n 0 dX12_odds_77 rfl rfl ?_
        refine aw_iconst 5 dX12_odds_78 (by decide) ?_
        refine aw_callVW_B (c12_no s_2 5) (io_12 (by decide)) ci_12 (by decide) mk_12_no w_1660 w_49 w_1658 rfl rfl (Nat.le_of_ble_eq_true rfl) dX12_odds_79 (fun v_7 s_8 => ?_)
        exact aw_zreturn (b := v_7) rfl rfl dX12_odds_82
      · refine aw_iload 5 dX12_odds_54 rfl ?_
        refine aw_iload 6 dX12_odds_56 rfl ?_
        refine aw_callST_B (c12_isAim s_2 x5 x6) (by decide) mk_12_isAim w_1996 w_1995 rfl rfl (Nat.le_of_ble_eq_true rfl) dX12_odds_58 ?_
        refine aw_bif_eq 77 dX12_odds_61 (by decide) ?_ ?_
        · refine aw_aload_n 0 dX12_odds_77 rfl rfl ?_
          refine aw_iconst 5 dX12_odds_78 (by decide) ?_
          refine aw_callVW_B (c12_no s_2 5) (io_12 (by decide)) ci_12 (by decide) mk_12_no w_1660 w_49 w_1658 rfl rfl (Nat.le_of_ble_eq_true rfl) dX12_odds_79 (fun v_9 s_10 => ?_)
          exact aw_zreturn (b := v_9) rfl rfl dX12_odds_82
        · refine aw_iload 7 dX12_odds_64 rfl ?_
          refine aw_i2l dX12_odds_66 ?_
          refine aw_lconst 1 dX12_odds_67 (by decide) ?_
          refine aw_ldc2 w_1968 dX12_odds_68 ?_
          refine aw_callST_B (c12_isIn s_2 (Int32.toInt64 x7) 1 20) (by decide) mk_12_isIn w_1754 w_1753 rfl rfl (Nat.le_of_ble_eq_true rfl) dX12_odds_71 ?_
          refine aw_bif_ne 83 dX12_odds_74 (by decide) ?_ ?_
          · refine aw_aload_n 0 dX12_odds_83 rfl rfl ?_
            refine aw_iload_n 1 dX12_odds_84 rfl rfl ?_
            refine aw_iload_n 2 dX12_odds_85 rfl rfl ?_
            refine aw_iload_n 3 dX12_odds_86 rfl rfl ?_
            refine aw_iload 4 dX12_odds_87 rfl ?_
            refine aw_iload 5 dX12_odds_89 rfl ?_
            refine aw_iload 6 dX12_odds_91 rfl ?_
            refine aw_aload_n 0 dX12_odds_93 rfl rfl ?_
            refine aw_getf (fg_12_20 (by decide)) ci_12 (by decide) w_1478 dX12_odds_94 ?_
            refine aw_bipush 7 dX12_odds_97 (by decide) ?_
            refine aw_iaload (ar_12_5 (by decide)) dX12_odds_99 (fun v_11 => ?_)
            refine aw_callVW_U (c12_counts s_2 x1 x2 x3 x4 x5 x6 v_11) (io_12 (by decide)) ci_12 (by decide) mk_12_counts w_2048 w_116 w_2046 rfl rfl (Nat.le_of_ble_eq_true rfl) dX12_odds_100 (fun _ s_12 => ?_)
            refine aw_iconst 0 dX12_odds_103 (by decide) ?_
            refine aw_istore (ls' := [(0, .ref (ad 12 0 0)), (7, .int x7), (8, .int 0)]) [1, 8, 0] dX12_odds_104 (by decide) rfl ?_
            refine aw_iload 1 dX12_odds_106 rfl ?_
            refine aw_istore (ls' := [(0, .ref (ad 12 0 0)), (8, .int 0), (9, .int x7)]) [1, 3, 0] dX12_odds_108 (by decide) rfl ?_
            refine aw_assoc ?_
            refine c12_odds_L110 s_12  (fun r_15 => ?_) fuelK 0 x7
            refine aw_aload_n 0 dX12_odds_135 rfl rfl ?_
            refine aw_iload 1 dX12_odds_136 rfl ?_
            refine aw_i2l dX12_odds_138 ?_
            refine aw_aload_n 0 dX12_odds_139 rfl rfl ?_
            refine aw_getf (fg_12_33 (by decide)) ci_12 (by decide) w_1491 dX12_odds_140 ?_
            refine aw_i2l dX12_odds_143 ?_
            refine aw_callVW_B (c12_fraction s_12 (Int32.toInt64 r_15) (Int32.toInt64 (gI s_12 12 0 0 33))) (io_12 (by decide)) ci_12 (by decide) mk_12_fraction w_2052 w_117 w_2050 rfl rfl (Nat.le_of_ble_eq_true rfl) dX12_odds_144 (fun v_16 s_17 => ?_)
            exact aw_zreturn (b := v_16) rfl rfl dX12_odds_147
          · refine aw_aload_n 0 dX12_odds_77 rfl rfl ?_
            refine aw_iconst 5 dX12_odds_78 (by decide) ?_
            refine aw_callVW_B (c12_no s_2 5) (io_12 (by decide)) ci_12 (by decide) mk_12_no w_1660 w_49 w_1658 rfl rfl (Nat.le_of_ble_eq_true rfl) dX12_odds_79 (fun v_18 s_19 => ?_)
            exact aw_zreturn (b := v_18) rfl rfl dX12_odds_82
  · refine aw_aload_n 0 dX12_odds_19 rfl rfl ?_
    refine aw_iconst 2 dX12_odds_20 (by decide) ?_
    refine aw_callVW_B (c12_no s_2 2) (io_12 (by decide)) ci_12 (by decide) mk_12_no w_1660 w_49 w_1658 rfl rfl (Nat.le_of_ble_eq_true rfl) dX12_odds_21 (fun v_20 s_21 => ?_)
    exact aw_zreturn (b := v_20) rfl rfl dX12_odds_24
def F12_mean (σ : Mem) (x1 : Int32) (x2 : Int32) (x3 : Int32) (x4 : Int32) (x5 : Int32) (x6 : Int32) : Option (Bool × Mem) :=
  bnd (sI σ 12 0 0 1 0) fun s_1 => bnd (sI s_1 12 0 0 0 0) fun s_2 => (F12_isShot s_2 x1 x2).bind fun v_3 => if v_3 = true then ((ald 3000 (gI s_2 12 0 5) (53 + x1)).bind fun v_4 => if (F12_isPuffing x3 v_4) = true then (if (F12_isIn (Int32.toInt64 x4) 0 3) = true then (if (F12_isAim x5 x6) = true then ((ald 3000 (gI s_2 12 0 5) 7).bind fun v_9 => bd (F12_counts s_2 x1 x2 x3 x4 x5 x6 v_9) fun _ s_10 => bd (F12_fraction s_10 (Int32.toInt64 (gI s_10 12 0 0 34)) (Int32.toInt64 (gI s_10 12 0 0 33))) fun v_11 s_12 => some (v_11, s_12)) else (bd (F12_no s_2 5) fun v_13 s_14 => some (v_13, s_14))) else (bd (F12_no s_2 5) fun v_7 s_8 => some (v_7, s_8))) else (bd (F12_no s_2 5) fun v_5 s_6 => some (v_5, s_6))) else (bd (F12_no s_2 2) fun v_15 s_16 => some (v_15, s_16))
set_option maxRecDepth 20000 in
theorem c12_mean {l : Launch} {D : va_G} {ad : Nat → Nat → Nat → Nat} {cid : Nat → Nat → Nat → ClassId} (σ : Mem) (x1 : Int32) (x2 : Int32) (x3 : Int32) (x4 : Int32) (x5 : Int32) (x6 : Int32) : AMF (XM l D ad cid) M12_mean 5 eB [.ref (ad 12 0 0), .int x1, .int x2, .int x3, .int x4, .int x5, .int x6] σ (F12_mean σ x1 x2 x3 x4 x5 x6) := by
  refine AM.ofW (by decide +kernel) (Nat.le_of_ble_eq_true rfl) (ls := [(0, .ref (ad 12 0 0)), (1, .int x1), (2, .int x2), (3, .int x3), (4, .int x4), (5, .int x5), (6, .int x6)]) rfl ?_
  refine aw_entry ?_
  unfold F12_mean
  refine aw_aload_n 0 dX12_mean_0 rfl rfl ?_
  refine aw_iconst 0 dX12_mean_1 (by decide) ?_
  refine aw_putI (fs_12_1 (by decide)) ci_12 (by decide) rfl rfl w_1459 dX12_mean_2 ?_
  refine aw_bndM (fun s_1 => ?_)
  refine aw_aload_n 0 dX12_mean_5 rfl rfl ?_
  refine aw_iconst 0 dX12_mean_6 (by decide) ?_
  refine aw_putI (fs_12_0 (by decide)) ci_12 (by decide) rfl rfl w_1458 dX12_mean_7 ?_
  refine aw_bndM (fun s_2 => ?_)
  refine aw_aload_n 0 dX12_mean_10 rfl rfl ?_
  refine aw_iload_n 1 dX12_mean_11 rfl rfl ?_
  refine aw_iload_n 2 dX12_mean_12 rfl rfl ?_
  refine aw_callVO_B (c12_isShot s_2 x1 x2) (io_12 (by decide)) ci_12 (by decide) mk_12_isShot w_2044 w_115 w_2042 rfl rfl (Nat.le_of_ble_eq_true rfl) dX12_mean_13 (fun v_3 => ?_)
  refine aw_bif_ne 25 dX12_mean_16 (by decide) ?_ ?_
  · refine aw_iload_n 3 dX12_mean_25 rfl rfl ?_
    refine aw_aload_n 0 dX12_mean_26 rfl rfl ?_
    refine aw_getf (fg_12_20 (by decide)) ci_12 (by decide) w_1478 dX12_mean_27 ?_
    refine aw_bipush 53 dX12_mean_30 (by decide) ?_
    refine aw_iload_n 1 dX12_mean_32 rfl rfl ?_
    refine aw_iadd dX12_mean_33 ?_
    refine aw_iaload (ar_12_5 (by decide)) dX12_mean_34 (fun v_4 => ?_)
    refine aw_callST_B (c12_isPuffing s_2 x3 v_4) (by decide) mk_12_isPuffing w_1963 w_1962 rfl rfl (Nat.le_of_ble_eq_true rfl) dX12_mean_35 ?_
    refine aw_bif_eq 64 dX12_mean_38 (by decide) ?_ ?_
    · refine aw_aload_n 0 dX12_mean_64 rfl rfl ?_
      refine aw_iconst 5 dX12_mean_65 (by decide) ?_
      refine aw_callVW_B (c12_no s_2 5) (io_12 (by decide)) ci_12 (by decide) mk_12_no w_1660 w_49 w_1658 rfl rfl (Nat.le_of_ble_eq_true rfl) dX12_mean_66 (fun v_5 s_6 => ?_)
      exact aw_zreturn (b := v_5) rfl rfl dX12_mean_69
    · refine aw_iload 4 dX12_mean_41 rfl ?_
      refine aw_i2l dX12_mean_43 ?_
      refine aw_lconst 0 dX12_mean_44 (by decide) ?_
      refine aw_ldc2 w_1981 dX12_mean_45 ?_
      refine aw_callST_B (c12_isIn s_2 (Int32.toInt64 x4) 0 3) (by decide) mk_12_isIn w_1754 w_1753 rfl rfl (Nat.le_of_ble_eq_true rfl) dX12_mean_48 ?_
      refine aw_bif_eq 64 dX12_mean_51 (by decide) ?_ ?_
      · refine aw_aload_n 0 dX12_mean_64 rfl rfl ?_
        refine aw_iconst 5 dX12_mean_65 (by decide) ?_
        refine aw_callVW_B (c12_no s_2 5) (io_12 (by decide)) ci_12 (by decide) mk_12_no w_1660 w_49 w_1658 rfl rfl (Nat.le_of_ble_eq_true rfl) dX12_mean_66 (fun v_7 s_8 => ?_)
        exact aw_zreturn (b := v_7) rfl rfl dX12_mean_69
      · refine aw_iload 5 dX12_mean_54 rfl ?_
        refine aw_iload 6 dX12_mean_56 rfl ?_
        refine aw_callST_B (c12_isAim s_2 x5 x6) (by decide) mk_12_isAim w_1996 w_1995 rfl rfl (Nat.le_of_ble_eq_true rfl) dX12_mean_58 ?_
        refine aw_bif_ne 70 dX12_mean_61 (by decide) ?_ ?_
        · refine aw_aload_n 0 dX12_mean_70 rfl rfl ?_
          refine aw_iload_n 1 dX12_mean_71 rfl rfl ?_
          refine aw_iload_n 2 dX12_mean_72 rfl rfl ?_
          refine aw_iload_n 3 dX12_mean_73 rfl rfl ?_
          refine aw_iload 4 dX12_mean_74 rfl ?_
          refine aw_iload 5 dX12_mean_76 rfl ?_
          refine aw_iload 6 dX12_mean_78 rfl ?_
          refine aw_aload_n 0 dX12_mean_80 rfl rfl ?_
          refine aw_getf (fg_12_20 (by decide)) ci_12 (by decide) w_1478 dX12_mean_81 ?_
          refine aw_bipush 7 dX12_mean_84 (by decide) ?_
          refine aw_iaload (ar_12_5 (by decide)) dX12_mean_86 (fun v_9 => ?_)
          refine aw_callVW_U (c12_counts s_2 x1 x2 x3 x4 x5 x6 v_9) (io_12 (by decide)) ci_12 (by decide) mk_12_counts w_2048 w_116 w_2046 rfl rfl (Nat.le_of_ble_eq_true rfl) dX12_mean_87 (fun _ s_10 => ?_)
          refine aw_aload_n 0 dX12_mean_90 rfl rfl ?_
          refine aw_aload_n 0 dX12_mean_91 rfl rfl ?_
          refine aw_getf (fg_12_34 (by decide)) ci_12 (by decide) w_1492 dX12_mean_92 ?_
          refine aw_i2l dX12_mean_95 ?_
          refine aw_aload_n 0 dX12_mean_96 rfl rfl ?_
          refine aw_getf (fg_12_33 (by decide)) ci_12 (by decide) w_1491 dX12_mean_97 ?_
          refine aw_i2l dX12_mean_100 ?_
          refine aw_callVW_B (c12_fraction s_10 (Int32.toInt64 (gI s_10 12 0 0 34)) (Int32.toInt64 (gI s_10 12 0 0 33))) (io_12 (by decide)) ci_12 (by decide) mk_12_fraction w_2052 w_117 w_2050 rfl rfl (Nat.le_of_ble_eq_true rfl) dX12_mean_101 (fun v_11 s_12 => ?_)
          exact aw_zreturn (b := v_11) rfl rfl dX12_mean_104
        · refine aw_aload_n 0 dX12_mean_64 rfl rfl ?_
          refine aw_iconst 5 dX12_mean_65 (by decide) ?_
          refine aw_callVW_B (c12_no s_2 5) (io_12 (by decide)) ci_12 (by decide) mk_12_no w_1660 w_49 w_1658 rfl rfl (Nat.le_of_ble_eq_true rfl) dX12_mean_66 (fun v_13 s_14 => ?_)
          exact aw_zreturn (b := v_13) rfl rfl dX12_mean_69
  · refine aw_aload_n 0 dX12_mean_19 rfl rfl ?_
    refine aw_iconst 2 dX12_mean_20 (by decide) ?_
    refine aw_callVW_B (c12_no s_2 2) (io_12 (by decide)) ci_12 (by decide) mk_12_no w_1660 w_49 w_1658 rfl rfl (Nat.le_of_ble_eq_true rfl) dX12_mean_21 (fun v_15 s_16 => ?_)
    exact aw_zreturn (b := v_15) rfl rfl dX12_mean_24
def F12_noBest (σ : Mem)  : Option (Unit × Mem) :=
  bnd (sL σ 12 0 0 35 (-1)) fun s_1 => bnd (sL s_1 12 0 0 36 1) fun s_2 => some ((), s_2)
set_option maxRecDepth 20000 in
theorem c12_noBest {l : Launch} {D : va_G} {ad : Nat → Nat → Nat → Nat} {cid : Nat → Nat → Nat → ClassId} (σ : Mem)  : AMF (XM l D ad cid) M12_noBest 0 eU [.ref (ad 12 0 0)] σ (F12_noBest σ) := by
  refine AM.ofW (by decide +kernel) (Nat.le_of_ble_eq_true rfl) (ls := [(0, .ref (ad 12 0 0))]) rfl ?_
  refine aw_entry ?_
  unfold F12_noBest
  refine aw_aload_n 0 dX12_noBest_0 rfl rfl ?_
  refine aw_ldc2 w_1681 dX12_noBest_1 ?_
  refine aw_putL (fs_12_35 (by decide)) ci_12 (by decide) rfl rfl w_1493 dX12_noBest_4 ?_
  refine aw_bndM (fun s_1 => ?_)
  refine aw_aload_n 0 dX12_noBest_7 rfl rfl ?_
  refine aw_lconst 1 dX12_noBest_8 (by decide) ?_
  refine aw_putL (fs_12_36 (by decide)) ci_12 (by decide) rfl rfl w_1494 dX12_noBest_9 ?_
  refine aw_bndM (fun s_2 => ?_)
  exact aw_return rfl dX12_noBest_12
def F12_isBetter (σ : Mem)  : Option (Bool × Mem) :=
  if ((gL σ 12 0 0 35) * (Int32.toInt64 (gI σ 12 0 0 33))) < ((Int32.toInt64 (gI σ 12 0 0 34)) * (gL σ 12 0 0 36)) then (bnd (sL σ 12 0 0 35 (Int32.toInt64 (gI σ 12 0 0 34))) fun s_1 => bnd (sL s_1 12 0 0 36 (Int32.toInt64 (gI s_1 12 0 0 33))) fun s_2 => some (true, s_2)) else (some (false, σ))
set_option maxRecDepth 20000 in
theorem c12_isBetter {l : Launch} {D : va_G} {ad : Nat → Nat → Nat → Nat} {cid : Nat → Nat → Nat → ClassId} (σ : Mem)  : AMF (XM l D ad cid) M12_isBetter 0 eB [.ref (ad 12 0 0)] σ (F12_isBetter σ) := by
  refine AM.ofW (by decide +kernel) (Nat.le_of_ble_eq_true rfl) (ls := [(0, .ref (ad 12 0 0))]) rfl ?_
  refine aw_entry ?_
  unfold F12_isBetter
  refine aw_aload_n 0 dX12_isBetter_0 rfl rfl ?_
  refine aw_getf (fg_12_34 (by decide)) ci_12 (by decide) w_1492 dX12_isBetter_1 ?_
  refine aw_i2l dX12_isBetter_4 ?_
  refine aw_aload_n 0 dX12_isBetter_5 rfl rfl ?_
  refine aw_getf (fg_12_36 (by decide)) ci_12 (by decide) w_1494 dX12_isBetter_6 ?_
  refine aw_lmul dX12_isBetter_9 ?_
  refine aw_aload_n 0 dX12_isBetter_10 rfl rfl ?_
  refine aw_getf (fg_12_35 (by decide)) ci_12 (by decide) w_1493 dX12_isBetter_11 ?_
  refine aw_aload_n 0 dX12_isBetter_14 rfl rfl ?_
  refine aw_getf (fg_12_33 (by decide)) ci_12 (by decide) w_1491 dX12_isBetter_15 ?_
  refine aw_i2l dX12_isBetter_18 ?_
  refine aw_lmul dX12_isBetter_19 ?_
  refine aw_lcmp dX12_isBetter_20 ?_
  refine aw_lif_gt 26 dX12_isBetter_21 (by decide) ?_ ?_
  · refine aw_aload_n 0 dX12_isBetter_26 rfl rfl ?_
    refine aw_aload_n 0 dX12_isBetter_27 rfl rfl ?_
    refine aw_getf (fg_12_34 (by decide)) ci_12 (by decide) w_1492 dX12_isBetter_28 ?_
    refine aw_i2l dX12_isBetter_31 ?_
    refine aw_putL (fs_12_35 (by decide)) ci_12 (by decide) rfl rfl w_1493 dX12_isBetter_32 ?_
    refine aw_bndM (fun s_1 => ?_)
    refine aw_aload_n 0 dX12_isBetter_35 rfl rfl ?_
    refine aw_aload_n 0 dX12_isBetter_36 rfl rfl ?_
    refine aw_getf (fg_12_33 (by decide)) ci_12 (by decide) w_1491 dX12_isBetter_37 ?_
    refine aw_i2l dX12_isBetter_40 ?_
    refine aw_putL (fs_12_36 (by decide)) ci_12 (by decide) rfl rfl w_1494 dX12_isBetter_41 ?_
    refine aw_bndM (fun s_2 => ?_)
    refine aw_iconst 1 dX12_isBetter_44 (by decide) ?_
    exact aw_zreturn (b := true) rfl rfl dX12_isBetter_45
  · refine aw_iconst 0 dX12_isBetter_24 (by decide) ?_
    exact aw_zreturn (b := false) rfl rfl dX12_isBetter_25
def F12_bestAim_L93 (x1 : Int32) (x2 : Int32) (x3 : Int32) (x4 : Int32) (x5 : Int32) (x7 : Int32) : Nat → Mem → Int32 → Int32 → Option ((Int32) × Mem)
  | 0 => fun _ _ _ => none
  | n + 1 => fun σ x6 x8 =>
    if 20 < x8 then (some (x6, σ)) else ((ald 3000 (gI σ 12 0 5) 7).bind fun v_10 => bd (F12_counts σ x1 x2 x3 x4 x7 x8 v_10) fun _ s_11 => bd (F12_isBetter s_11) fun v_12 s_13 => if v_12 = true then (if x5 = 0 then ((F12_bestAim_L93 x1 x2 x3 x4 x5 x7 n) s_13 x7 (x8 + 1)) else ((F12_bestAim_L93 x1 x2 x3 x4 x5 x7 n) s_13 x8 (x8 + 1))) else ((F12_bestAim_L93 x1 x2 x3 x4 x5 x7 n) s_13 x6 (x8 + 1)))
set_option maxRecDepth 20000 in
theorem c12_bestAim_L93 {l : Launch} {D : va_G} {ad : Nat → Nat → Nat → Nat} {cid : Nat → Nat → Nat → ClassId} {α : Type} {emb : α → Option Value} (x1 : Int32) (x2 : Int32) (x3 : Int32) (x4 : Int32) (x5 : Int32) (x7 : Int32) {G : Int32 → Mem → Option (α × Mem)} (kx : ∀ r σ, AW (XM l D ad cid) M12_bestAim 5 emb [(0, .ref (ad 12 0 0)), (1, .int x1), (2, .int x2), (3, .int x3), (4, .int x4), (5, .int x5), (6, .int r), (7, .int x7)] 147 [] σ (G r σ)) : ∀ (n : Nat) (σ : Mem) (x6 : Int32) (x8 : Int32), AW (XM l D ad cid) M12_bestAim 5 emb [(0, .ref (ad 12 0 0)), (1, .int x1), (2, .int x2), (3, .int x3), (4, .int x4), (5, .int x5), (6, .int x6), (7, .int x7), (8, .int x8)] 93 [] σ (bd (F12_bestAim_L93 x1 x2 x3 x4 x5 x7 n σ x6 x8) G) := by
  intro n
  induction n with
  | zero => intros; exact aw_none
  | succ n ih =>
    intro σ x6 x8
    refine aw_bdB ?_
    rw [F12_bestAim_L93.eq_2]
    refine aw_iload 8 dX12_bestAim_93 rfl ?_
    refine aw_bipush 20 dX12_bestAim_95 (by decide) ?_
    refine aw_icmp_gt 147 dX12_bestAim_97 (by decide) ?_ ?_
    · refine aw_ls (ls' := [(0, .ref (ad 12 0 0)), (1, .int x1), (2, .int x2), (3, .int x3), (4, .int x4), (5, .int x5), (6, .int x6), (7, .int x7)]) [0, 1, 2, 3, 4, 5, 6, 7] rfl ?_
      exact kx x6 σ
    · refine aw_aload_n 0 dX12_bestAim_100 rfl rfl ?_
      refine aw_iload_n 1 dX12_bestAim_101 rfl rfl ?_
      refine aw_iload_n 2 dX12_bestAim_102 rfl rfl ?_
      refine aw_iload_n 3 dX12_bestAim_103 rfl rfl ?_
      refine aw_iload 4 dX12_bestAim_104 rfl ?_
      refine aw_iload 7 dX12_bestAim_106 rfl ?_
      refine aw_iload 8 dX12_bestAim_108 rfl ?_
      refine aw_aload_n 0 dX12_bestAim_110 rfl rfl ?_
      refine aw_getf (fg_12_20 (by decide)) ci_12 (by decide) w_1478 dX12_bestAim_111 ?_
      refine aw_bipush 7 dX12_bestAim_114 (by decide) ?_
      refine aw_iaload (ar_12_5 (by decide)) dX12_bestAim_116 (fun v_10 => ?_)
      refine aw_callVW_U (c12_counts σ x1 x2 x3 x4 x7 x8 v_10) (io_12 (by decide)) ci_12 (by decide) mk_12_counts w_2048 w_116 w_2046 rfl rfl (Nat.le_of_ble_eq_true rfl) dX12_bestAim_117 (fun _ s_11 => ?_)
      refine aw_aload_n 0 dX12_bestAim_120 rfl rfl ?_
      refine aw_callVW_B (c12_isBetter s_11 ) (io_12 (by decide)) ci_12 (by decide) mk_12_isBetter w_2069 w_119 w_2067 rfl rfl (Nat.le_of_ble_eq_true rfl) dX12_bestAim_121 (fun v_12 s_13 => ?_)
      refine aw_bif_eq 141 dX12_bestAim_124 (by decide) ?_ ?_
      · refine aw_iinc (ls' := [(0, .ref (ad 12 0 0)), (1, .int x1), (2, .int x2), (3, .int x3), (4, .int x4), (5, .int x5), (6, .int x6), (7, .int x7), (8, .int (x8 + 1))]) (x8 + 1) 8 [1, 2, 3, 4, 5, 6, 7, 8, 0] dX12_bestAim_141 rfl (by rfl) (by decide) rfl ?_
        refine aw_goto 93 dX12_bestAim_144 (by decide) ?_
        exact ih s_13 x6 (x8 + 1)
      · refine aw_iload 5 dX12_bestAim_127 rfl ?_
        refine aw_if_ne 137 dX12_bestAim_129 (by decide) ?_ ?_
        · refine aw_iload 8 dX12_bestAim_137 rfl ?_
          refine aw_istore (ls' := [(0, .ref (ad 12 0 0)), (1, .int x1), (2, .int x2), (3, .int x3), (4, .int x4), (5, .int x5), (6, .int x8), (7, .int x7), (8, .int x8)]) [1, 2, 3, 4, 5, 6, 0, 7, 8] dX12_bestAim_139 (by decide) rfl ?_
          refine aw_iinc (ls' := [(0, .ref (ad 12 0 0)), (1, .int x1), (2, .int x2), (3, .int x3), (4, .int x4), (5, .int x5), (6, .int x8), (7, .int x7), (8, .int (x8 + 1))]) (x8 + 1) 8 [1, 2, 3, 4, 5, 6, 7, 8, 0] dX12_bestAim_141 rfl (by rfl) (by decide) rfl ?_
          refine aw_goto 93 dX12_bestAim_144 (by decide) ?_
          exact ih s_13 x8 (x8 + 1)
        · refine aw_iload 7 dX12_bestAim_132 rfl ?_
          refine aw_goto 139 dX12_bestAim_134 (by decide) ?_
          refine aw_istore (ls' := [(0, .ref (ad 12 0 0)), (1, .int x1), (2, .int x2), (3, .int x3), (4, .int x4), (5, .int x5), (6, .int x7), (7, .int x7), (8, .int x8)]) [1, 2, 3, 4, 5, 6, 0, 7, 8] dX12_bestAim_139 (by decide) rfl ?_
          refine aw_iinc (ls' := [(0, .ref (ad 12 0 0)), (1, .int x1), (2, .int x2), (3, .int x3), (4, .int x4), (5, .int x5), (6, .int x7), (7, .int x7), (8, .int (x8 + 1))]) (x8 + 1) 8 [1, 2, 3, 4, 5, 6, 7, 8, 0] dX12_bestAim_141 rfl (by rfl) (by decide) rfl ?_
          refine aw_goto 93 dX12_bestAim_144 (by decide) ?_
          exact ih s_13 x7 (x8 + 1)
def F12_bestAim_L82 (x1 : Int32) (x2 : Int32) (x3 : Int32) (x4 : Int32) (x5 : Int32) : Nat → Mem → Int32 → Int32 → Option ((Int32) × Mem)
  | 0 => fun _ _ _ => none
  | n + 1 => fun σ x6 x7 =>
    if 20 < x7 then (some (x6, σ)) else (bd (F12_bestAim_L93 x1 x2 x3 x4 x5 x7 fuelK σ x6 (-20)) fun r_14 s_15 => (F12_bestAim_L82 x1 x2 x3 x4 x5 n) s_15 r_14 (x7 + 1))
set_option maxRecDepth 20000 in
theorem c12_bestAim_L82 {l : Launch} {D : va_G} {ad : Nat → Nat → Nat → Nat} {cid : Nat → Nat → Nat → ClassId} {α : Type} {emb : α → Option Value} (x1 : Int32) (x2 : Int32) (x3 : Int32) (x4 : Int32) (x5 : Int32) {G : Int32 → Mem → Option (α × Mem)} (kx : ∀ r σ, AW (XM l D ad cid) M12_bestAim 5 emb [(0, .ref (ad 12 0 0)), (6, .int r)] 153 [] σ (G r σ)) : ∀ (n : Nat) (σ : Mem) (x6 : Int32) (x7 : Int32), AW (XM l D ad cid) M12_bestAim 5 emb [(0, .ref (ad 12 0 0)), (1, .int x1), (2, .int x2), (3, .int x3), (4, .int x4), (5, .int x5), (6, .int x6), (7, .int x7)] 82 [] σ (bd (F12_bestAim_L82 x1 x2 x3 x4 x5 n σ x6 x7) G) := by
  intro n
  induction n with
  | zero => intros; exact aw_none
  | succ n ih =>
    intro σ x6 x7
    refine aw_bdB ?_
    rw [F12_bestAim_L82.eq_2]
    refine aw_iload 7 dX12_bestAim_82 rfl ?_
    refine aw_bipush 20 dX12_bestAim_84 (by decide) ?_
    refine aw_icmp_gt 153 dX12_bestAim_86 (by decide) ?_ ?_
    · refine aw_ls (ls' := [(0, .ref (ad 12 0 0)), (6, .int x6)]) [0, 6] rfl ?_
      exact kx x6 σ
    · refine aw_bipush (-20) dX12_bestAim_89 (by decide) ?_
      refine aw_istore (ls' := [(0, .ref (ad 12 0 0)), (1, .int x1), (2, .int x2), (3, .int x3), (4, .int x4), (5, .int x5), (6, .int x6), (7, .int x7), (8, .int (-20))]) [1, 2, 3, 4, 5, 6, 7, 8, 0] dX12_bestAim_91 (by decide) rfl ?_
      refine aw_assocW ?_
      refine c12_bestAim_L93 x1 x2 x3 x4 x5 x7 (fun r_14 s_15 => ?_) fuelK σ x6 (-20)
      refine aw_iinc (ls' := [(0, .ref (ad 12 0 0)), (1, .int x1), (2, .int x2), (3, .int x3), (4, .int x4), (5, .int x5), (6, .int r_14), (7, .int (x7 + 1))]) (x7 + 1) 7 [1, 2, 3, 4, 5, 6, 7, 0] dX12_bestAim_147 rfl (by rfl) (by decide) rfl ?_
      refine aw_goto 82 dX12_bestAim_150 (by decide) ?_
      exact ih s_15 r_14 (x7 + 1)
def F12_bestAim (σ : Mem) (x1 : Int32) (x2 : Int32) (x3 : Int32) (x4 : Int32) (x5 : Int32) : Option (Int32 × Mem) :=
  bnd (sI σ 12 0 0 1 0) fun s_1 => bnd (sI s_1 12 0 0 0 0) fun s_2 => (F12_isShot s_2 x1 x2).bind fun v_3 => if v_3 = true then ((ald 3000 (gI s_2 12 0 5) (53 + x1)).bind fun v_4 => if (F12_isPuffing x3 v_4) = true then (if (F12_isIn (Int32.toInt64 x4) 0 3) = true then (if (F12_isIn (Int32.toInt64 x5) 0 1) = true then (bd (F12_noBest s_2) fun _ s_9 => bd (F12_bestAim_L82 x1 x2 x3 x4 x5 fuelK s_9 0 (-20)) fun r_16 s_17 => bd (F12_fraction s_17 (gL s_17 12 0 0 35) (gL s_17 12 0 0 36)) fun v_18 s_19 => some (r_16, s_19)) else (bd (F12_refuse s_2 5) fun v_20 s_21 => some (v_20, s_21))) else (bd (F12_refuse s_2 5) fun v_7 s_8 => some (v_7, s_8))) else (bd (F12_refuse s_2 5) fun v_5 s_6 => some (v_5, s_6))) else (bd (F12_refuse s_2 2) fun v_22 s_23 => some (v_22, s_23))
set_option maxRecDepth 20000 in
theorem c12_bestAim {l : Launch} {D : va_G} {ad : Nat → Nat → Nat → Nat} {cid : Nat → Nat → Nat → ClassId} (σ : Mem) (x1 : Int32) (x2 : Int32) (x3 : Int32) (x4 : Int32) (x5 : Int32) : AMF (XM l D ad cid) M12_bestAim 5 eI [.ref (ad 12 0 0), .int x1, .int x2, .int x3, .int x4, .int x5] σ (F12_bestAim σ x1 x2 x3 x4 x5) := by
  refine AM.ofW (by decide +kernel) (Nat.le_of_ble_eq_true rfl) (ls := [(0, .ref (ad 12 0 0)), (1, .int x1), (2, .int x2), (3, .int x3), (4, .int x4), (5, .int x5)]) rfl ?_
  refine aw_entry ?_
  unfold F12_bestAim
  refine aw_aload_n 0 dX12_bestAim_0 rfl rfl ?_
  refine aw_iconst 0 dX12_bestAim_1 (by decide) ?_
  refine aw_putI (fs_12_1 (by decide)) ci_12 (by decide) rfl rfl w_1459 dX12_bestAim_2 ?_
  refine aw_bndM (fun s_1 => ?_)
  refine aw_aload_n 0 dX12_bestAim_5 rfl rfl ?_
  refine aw_iconst 0 dX12_bestAim_6 (by decide) ?_
  refine aw_putI (fs_12_0 (by decide)) ci_12 (by decide) rfl rfl w_1458 dX12_bestAim_7 ?_
  refine aw_bndM (fun s_2 => ?_)
  refine aw_aload_n 0 dX12_bestAim_10 rfl rfl ?_
  refine aw_iload_n 1 dX12_bestAim_11 rfl rfl ?_
  refine aw_iload_n 2 dX12_bestAim_12 rfl rfl ?_
  refine aw_callVO_B (c12_isShot s_2 x1 x2) (io_12 (by decide)) ci_12 (by decide) mk_12_isShot w_2044 w_115 w_2042 rfl rfl (Nat.le_of_ble_eq_true rfl) dX12_bestAim_13 (fun v_3 => ?_)
  refine aw_bif_ne 25 dX12_bestAim_16 (by decide) ?_ ?_
  · refine aw_iload_n 3 dX12_bestAim_25 rfl rfl ?_
    refine aw_aload_n 0 dX12_bestAim_26 rfl rfl ?_
    refine aw_getf (fg_12_20 (by decide)) ci_12 (by decide) w_1478 dX12_bestAim_27 ?_
    refine aw_bipush 53 dX12_bestAim_30 (by decide) ?_
    refine aw_iload_n 1 dX12_bestAim_32 rfl rfl ?_
    refine aw_iadd dX12_bestAim_33 ?_
    refine aw_iaload (ar_12_5 (by decide)) dX12_bestAim_34 (fun v_4 => ?_)
    refine aw_callST_B (c12_isPuffing s_2 x3 v_4) (by decide) mk_12_isPuffing w_1963 w_1962 rfl rfl (Nat.le_of_ble_eq_true rfl) dX12_bestAim_35 ?_
    refine aw_bif_eq 65 dX12_bestAim_38 (by decide) ?_ ?_
    · refine aw_aload_n 0 dX12_bestAim_65 rfl rfl ?_
      refine aw_iconst 5 dX12_bestAim_66 (by decide) ?_
      refine aw_callVW_I (c12_refuse s_2 5) (io_12 (by decide)) ci_12 (by decide) mk_12_refuse w_1921 w_101 w_1919 rfl rfl (Nat.le_of_ble_eq_true rfl) dX12_bestAim_67 (fun v_5 s_6 => ?_)
      exact aw_ireturn rfl dX12_bestAim_70
    · refine aw_iload 4 dX12_bestAim_41 rfl ?_
      refine aw_i2l dX12_bestAim_43 ?_
      refine aw_lconst 0 dX12_bestAim_44 (by decide) ?_
      refine aw_ldc2 w_1981 dX12_bestAim_45 ?_
      refine aw_callST_B (c12_isIn s_2 (Int32.toInt64 x4) 0 3) (by decide) mk_12_isIn w_1754 w_1753 rfl rfl (Nat.le_of_ble_eq_true rfl) dX12_bestAim_48 ?_
      refine aw_bif_eq 65 dX12_bestAim_51 (by decide) ?_ ?_
      · refine aw_aload_n 0 dX12_bestAim_65 rfl rfl ?_
        refine aw_iconst 5 dX12_bestAim_66 (by decide) ?_
        refine aw_callVW_I (c12_refuse s_2 5) (io_12 (by decide)) ci_12 (by decide) mk_12_refuse w_1921 w_101 w_1919 rfl rfl (Nat.le_of_ble_eq_true rfl) dX12_bestAim_67 (fun v_7 s_8 => ?_)
        exact aw_ireturn rfl dX12_bestAim_70
      · refine aw_iload 5 dX12_bestAim_54 rfl ?_
        refine aw_i2l dX12_bestAim_56 ?_
        refine aw_lconst 0 dX12_bestAim_57 (by decide) ?_
        refine aw_lconst 1 dX12_bestAim_58 (by decide) ?_
        refine aw_callST_B (c12_isIn s_2 (Int32.toInt64 x5) 0 1) (by decide) mk_12_isIn w_1754 w_1753 rfl rfl (Nat.le_of_ble_eq_true rfl) dX12_bestAim_59 ?_
        refine aw_bif_ne 71 dX12_bestAim_62 (by decide) ?_ ?_
        · refine aw_aload_n 0 dX12_bestAim_71 rfl rfl ?_
          refine aw_callVW_U (c12_noBest s_2 ) (io_12 (by decide)) ci_12 (by decide) mk_12_noBest w_2065 w_118 w_2063 rfl rfl (Nat.le_of_ble_eq_true rfl) dX12_bestAim_72 (fun _ s_9 => ?_)
          refine aw_iconst 0 dX12_bestAim_75 (by decide) ?_
          refine aw_istore (ls' := [(0, .ref (ad 12 0 0)), (1, .int x1), (2, .int x2), (3, .int x3), (4, .int x4), (5, .int x5), (6, .int 0)]) [1, 2, 3, 4, 5, 6, 0] dX12_bestAim_76 (by decide) rfl ?_
          refine aw_bipush (-20) dX12_bestAim_78 (by decide) ?_
          refine aw_istore (ls' := [(0, .ref (ad 12 0 0)), (1, .int x1), (2, .int x2), (3, .int x3), (4, .int x4), (5, .int x5), (6, .int 0), (7, .int (-20))]) [1, 2, 3, 4, 5, 6, 7, 0] dX12_bestAim_80 (by decide) rfl ?_
          refine aw_assocW ?_
          refine c12_bestAim_L82 x1 x2 x3 x4 x5 (fun r_16 s_17 => ?_) fuelK s_9 0 (-20)
          refine aw_aload_n 0 dX12_bestAim_153 rfl rfl ?_
          refine aw_aload_n 0 dX12_bestAim_154 rfl rfl ?_
          refine aw_getf (fg_12_35 (by decide)) ci_12 (by decide) w_1493 dX12_bestAim_155 ?_
          refine aw_aload_n 0 dX12_bestAim_158 rfl rfl ?_
          refine aw_getf (fg_12_36 (by decide)) ci_12 (by decide) w_1494 dX12_bestAim_159 ?_
          refine aw_callVW_B (c12_fraction s_17 (gL s_17 12 0 0 35) (gL s_17 12 0 0 36)) (io_12 (by decide)) ci_12 (by decide) mk_12_fraction w_2052 w_117 w_2050 rfl rfl (Nat.le_of_ble_eq_true rfl) dX12_bestAim_162 (fun v_18 s_19 => ?_)
          refine aw_pop dX12_bestAim_165 rfl ?_
          refine aw_iload 1 dX12_bestAim_166 rfl ?_
          exact aw_ireturn rfl dX12_bestAim_168
        · refine aw_aload_n 0 dX12_bestAim_65 rfl rfl ?_
          refine aw_iconst 5 dX12_bestAim_66 (by decide) ?_
          refine aw_callVW_I (c12_refuse s_2 5) (io_12 (by decide)) ci_12 (by decide) mk_12_refuse w_1921 w_101 w_1919 rfl rfl (Nat.le_of_ble_eq_true rfl) dX12_bestAim_67 (fun v_20 s_21 => ?_)
          exact aw_ireturn rfl dX12_bestAim_70
  · refine aw_aload_n 0 dX12_bestAim_19 rfl rfl ?_
    refine aw_iconst 2 dX12_bestAim_20 (by decide) ?_
    refine aw_callVW_I (c12_refuse s_2 2) (io_12 (by decide)) ci_12 (by decide) mk_12_refuse w_1921 w_101 w_1919 rfl rfl (Nat.le_of_ble_eq_true rfl) dX12_bestAim_21 (fun v_22 s_23 => ?_)
    exact aw_ireturn rfl dX12_bestAim_24
def F12_bestPuff_L63 (x1 : Int32) (x2 : Int32) (x3 : Int32) (x4 : Int32) (x5 : Int32) : Nat → Mem → Int32 → Int32 → Option ((Int32) × Mem)
  | 0 => fun _ _ _ => none
  | n + 1 => fun σ x6 x7 =>
    (ald 3000 (gI σ 12 0 5) (53 + x1)).bind fun v_7 => if v_7 < x7 then (some (x6, σ)) else ((ald 3000 (gI σ 12 0 5) 7).bind fun v_8 => bd (F12_counts σ x1 x2 x7 x3 x4 x5 v_8) fun _ s_9 => bd (F12_isBetter s_9) fun v_10 s_11 => if v_10 = true then ((F12_bestPuff_L63 x1 x2 x3 x4 x5 n) s_11 x7 (x7 + 1)) else ((F12_bestPuff_L63 x1 x2 x3 x4 x5 n) s_11 x6 (x7 + 1)))
set_option maxRecDepth 20000 in
theorem c12_bestPuff_L63 {l : Launch} {D : va_G} {ad : Nat → Nat → Nat → Nat} {cid : Nat → Nat → Nat → ClassId} {α : Type} {emb : α → Option Value} (x1 : Int32) (x2 : Int32) (x3 : Int32) (x4 : Int32) (x5 : Int32) {G : Int32 → Mem → Option (α × Mem)} (kx : ∀ r σ, AW (XM l D ad cid) M12_bestPuff 5 emb [(0, .ref (ad 12 0 0)), (6, .int r)] 114 [] σ (G r σ)) : ∀ (n : Nat) (σ : Mem) (x6 : Int32) (x7 : Int32), AW (XM l D ad cid) M12_bestPuff 5 emb [(0, .ref (ad 12 0 0)), (1, .int x1), (2, .int x2), (3, .int x3), (4, .int x4), (5, .int x5), (6, .int x6), (7, .int x7)] 63 [] σ (bd (F12_bestPuff_L63 x1 x2 x3 x4 x5 n σ x6 x7) G) := by
  intro n
  induction n with
  | zero => intros; exact aw_none
  | succ n ih =>
    intro σ x6 x7
    refine aw_bdB ?_
    rw [F12_bestPuff_L63.eq_2]
    refine aw_iload 7 dX12_bestPuff_63 rfl ?_
    refine aw_aload_n 0 dX12_bestPuff_65 rfl rfl ?_
    refine aw_getf (fg_12_20 (by decide)) ci_12 (by decide) w_1478 dX12_bestPuff_66 ?_
    refine aw_bipush 53 dX12_bestPuff_69 (by decide) ?_
    refine aw_iload_n 1 dX12_bestPuff_71 rfl rfl ?_
    refine aw_iadd dX12_bestPuff_72 ?_
    refine aw_iaload (ar_12_5 (by decide)) dX12_bestPuff_73 (fun v_7 => ?_)
    refine aw_icmp_gt 114 dX12_bestPuff_74 (by decide) ?_ ?_
    · refine aw_ls (ls' := [(0, .ref (ad 12 0 0)), (6, .int x6)]) [0, 6] rfl ?_
      exact kx x6 σ
    · refine aw_aload_n 0 dX12_bestPuff_77 rfl rfl ?_
      refine aw_iload_n 1 dX12_bestPuff_78 rfl rfl ?_
      refine aw_iload_n 2 dX12_bestPuff_79 rfl rfl ?_
      refine aw_iload 7 dX12_bestPuff_80 rfl ?_
      refine aw_iload_n 3 dX12_bestPuff_82 rfl rfl ?_
      refine aw_iload 4 dX12_bestPuff_83 rfl ?_
      refine aw_iload 5 dX12_bestPuff_85 rfl ?_
      refine aw_aload_n 0 dX12_bestPuff_87 rfl rfl ?_
      refine aw_getf (fg_12_20 (by decide)) ci_12 (by decide) w_1478 dX12_bestPuff_88 ?_
      refine aw_bipush 7 dX12_bestPuff_91 (by decide) ?_
      refine aw_iaload (ar_12_5 (by decide)) dX12_bestPuff_93 (fun v_8 => ?_)
      refine aw_callVW_U (c12_counts σ x1 x2 x7 x3 x4 x5 v_8) (io_12 (by decide)) ci_12 (by decide) mk_12_counts w_2048 w_116 w_2046 rfl rfl (Nat.le_of_ble_eq_true rfl) dX12_bestPuff_94 (fun _ s_9 => ?_)
      refine aw_aload_n 0 dX12_bestPuff_97 rfl rfl ?_
      refine aw_callVW_B (c12_isBetter s_9 ) (io_12 (by decide)) ci_12 (by decide) mk_12_isBetter w_2069 w_119 w_2067 rfl rfl (Nat.le_of_ble_eq_true rfl) dX12_bestPuff_98 (fun v_10 s_11 => ?_)
      refine aw_bif_eq 108 dX12_bestPuff_101 (by decide) ?_ ?_
      · refine aw_iinc (ls' := [(0, .ref (ad 12 0 0)), (1, .int x1), (2, .int x2), (3, .int x3), (4, .int x4), (5, .int x5), (6, .int x6), (7, .int (x7 + 1))]) (x7 + 1) 7 [1, 2, 3, 4, 5, 6, 7, 0] dX12_bestPuff_108 rfl (by rfl) (by decide) rfl ?_
        refine aw_goto 63 dX12_bestPuff_111 (by decide) ?_
        exact ih s_11 x6 (x7 + 1)
      · refine aw_iload 7 dX12_bestPuff_104 rfl ?_
        refine aw_istore (ls' := [(0, .ref (ad 12 0 0)), (1, .int x1), (2, .int x2), (3, .int x3), (4, .int x4), (5, .int x5), (6, .int x7), (7, .int x7)]) [1, 2, 3, 4, 5, 6, 0, 7] dX12_bestPuff_106 (by decide) rfl ?_
        refine aw_iinc (ls' := [(0, .ref (ad 12 0 0)), (1, .int x1), (2, .int x2), (3, .int x3), (4, .int x4), (5, .int x5), (6, .int x7), (7, .int (x7 + 1))]) (x7 + 1) 7 [1, 2, 3, 4, 5, 6, 7, 0] dX12_bestPuff_108 rfl (by rfl) (by decide) rfl ?_
        refine aw_goto 63 dX12_bestPuff_111 (by decide) ?_
        exact ih s_11 x7 (x7 + 1)
def F12_bestPuff (σ : Mem) (x1 : Int32) (x2 : Int32) (x3 : Int32) (x4 : Int32) (x5 : Int32) : Option (Int32 × Mem) :=
  bnd (sI σ 12 0 0 1 0) fun s_1 => bnd (sI s_1 12 0 0 0 0) fun s_2 => (F12_isShot s_2 x1 x2).bind fun v_3 => if v_3 = true then (if (F12_isIn (Int32.toInt64 x3) 0 3) = true then (if (F12_isAim x4 x5) = true then (bd (F12_noBest s_2) fun _ s_6 => bd (F12_bestPuff_L63 x1 x2 x3 x4 x5 fuelK s_6 1 1) fun r_12 s_13 => bd (F12_fraction s_13 (gL s_13 12 0 0 35) (gL s_13 12 0 0 36)) fun v_14 s_15 => some (r_12, s_15)) else (bd (F12_refuse s_2 5) fun v_16 s_17 => some (v_16, s_17))) else (bd (F12_refuse s_2 5) fun v_4 s_5 => some (v_4, s_5))) else (bd (F12_refuse s_2 2) fun v_18 s_19 => some (v_18, s_19))
set_option maxRecDepth 20000 in
theorem c12_bestPuff {l : Launch} {D : va_G} {ad : Nat → Nat → Nat → Nat} {cid : Nat → Nat → Nat → ClassId} (σ : Mem) (x1 : Int32) (x2 : Int32) (x3 : Int32) (x4 : Int32) (x5 : Int32) : AMF (XM l D ad cid) M12_bestPuff 5 eI [.ref (ad 12 0 0), .int x1, .int x2, .int x3, .int x4, .int x5] σ (F12_bestPuff σ x1 x2 x3 x4 x5) := by
  refine AM.ofW (by decide +kernel) (Nat.le_of_ble_eq_true rfl) (ls := [(0, .ref (ad 12 0 0)), (1, .int x1), (2, .int x2), (3, .int x3), (4, .int x4), (5, .int x5)]) rfl ?_
  refine aw_entry ?_
  unfold F12_bestPuff
  refine aw_aload_n 0 dX12_bestPuff_0 rfl rfl ?_
  refine aw_iconst 0 dX12_bestPuff_1 (by decide) ?_
  refine aw_putI (fs_12_1 (by decide)) ci_12 (by decide) rfl rfl w_1459 dX12_bestPuff_2 ?_
  refine aw_bndM (fun s_1 => ?_)
  refine aw_aload_n 0 dX12_bestPuff_5 rfl rfl ?_
  refine aw_iconst 0 dX12_bestPuff_6 (by decide) ?_
  refine aw_putI (fs_12_0 (by decide)) ci_12 (by decide) rfl rfl w_1458 dX12_bestPuff_7 ?_
  refine aw_bndM (fun s_2 => ?_)
  refine aw_aload_n 0 dX12_bestPuff_10 rfl rfl ?_
  refine aw_iload_n 1 dX12_bestPuff_11 rfl rfl ?_
  refine aw_iload_n 2 dX12_bestPuff_12 rfl rfl ?_
  refine aw_callVO_B (c12_isShot s_2 x1 x2) (io_12 (by decide)) ci_12 (by decide) mk_12_isShot w_2044 w_115 w_2042 rfl rfl (Nat.le_of_ble_eq_true rfl) dX12_bestPuff_13 (fun v_3 => ?_)
  refine aw_bif_ne 25 dX12_bestPuff_16 (by decide) ?_ ?_
  · refine aw_iload_n 3 dX12_bestPuff_25 rfl rfl ?_
    refine aw_i2l dX12_bestPuff_26 ?_
    refine aw_lconst 0 dX12_bestPuff_27 (by decide) ?_
    refine aw_ldc2 w_1981 dX12_bestPuff_28 ?_
    refine aw_callST_B (c12_isIn s_2 (Int32.toInt64 x3) 0 3) (by decide) mk_12_isIn w_1754 w_1753 rfl rfl (Nat.le_of_ble_eq_true rfl) dX12_bestPuff_31 ?_
    refine aw_bif_eq 47 dX12_bestPuff_34 (by decide) ?_ ?_
    · refine aw_aload_n 0 dX12_bestPuff_47 rfl rfl ?_
      refine aw_iconst 5 dX12_bestPuff_48 (by decide) ?_
      refine aw_callVW_I (c12_refuse s_2 5) (io_12 (by decide)) ci_12 (by decide) mk_12_refuse w_1921 w_101 w_1919 rfl rfl (Nat.le_of_ble_eq_true rfl) dX12_bestPuff_49 (fun v_4 s_5 => ?_)
      exact aw_ireturn rfl dX12_bestPuff_52
    · refine aw_iload 4 dX12_bestPuff_37 rfl ?_
      refine aw_iload 5 dX12_bestPuff_39 rfl ?_
      refine aw_callST_B (c12_isAim s_2 x4 x5) (by decide) mk_12_isAim w_1996 w_1995 rfl rfl (Nat.le_of_ble_eq_true rfl) dX12_bestPuff_41 ?_
      refine aw_bif_ne 53 dX12_bestPuff_44 (by decide) ?_ ?_
      · refine aw_aload_n 0 dX12_bestPuff_53 rfl rfl ?_
        refine aw_callVW_U (c12_noBest s_2 ) (io_12 (by decide)) ci_12 (by decide) mk_12_noBest w_2065 w_118 w_2063 rfl rfl (Nat.le_of_ble_eq_true rfl) dX12_bestPuff_54 (fun _ s_6 => ?_)
        refine aw_iconst 1 dX12_bestPuff_57 (by decide) ?_
        refine aw_istore (ls' := [(0, .ref (ad 12 0 0)), (1, .int x1), (2, .int x2), (3, .int x3), (4, .int x4), (5, .int x5), (6, .int 1)]) [1, 2, 3, 4, 5, 6, 0] dX12_bestPuff_58 (by decide) rfl ?_
        refine aw_iconst 1 dX12_bestPuff_60 (by decide) ?_
        refine aw_istore (ls' := [(0, .ref (ad 12 0 0)), (1, .int x1), (2, .int x2), (3, .int x3), (4, .int x4), (5, .int x5), (6, .int 1), (7, .int 1)]) [1, 2, 3, 4, 5, 6, 7, 0] dX12_bestPuff_61 (by decide) rfl ?_
        refine aw_assocW ?_
        refine c12_bestPuff_L63 x1 x2 x3 x4 x5 (fun r_12 s_13 => ?_) fuelK s_6 1 1
        refine aw_aload_n 0 dX12_bestPuff_114 rfl rfl ?_
        refine aw_aload_n 0 dX12_bestPuff_115 rfl rfl ?_
        refine aw_getf (fg_12_35 (by decide)) ci_12 (by decide) w_1493 dX12_bestPuff_116 ?_
        refine aw_aload_n 0 dX12_bestPuff_119 rfl rfl ?_
        refine aw_getf (fg_12_36 (by decide)) ci_12 (by decide) w_1494 dX12_bestPuff_120 ?_
        refine aw_callVW_B (c12_fraction s_13 (gL s_13 12 0 0 35) (gL s_13 12 0 0 36)) (io_12 (by decide)) ci_12 (by decide) mk_12_fraction w_2052 w_117 w_2050 rfl rfl (Nat.le_of_ble_eq_true rfl) dX12_bestPuff_123 (fun v_14 s_15 => ?_)
        refine aw_pop dX12_bestPuff_126 rfl ?_
        refine aw_iload 1 dX12_bestPuff_127 rfl ?_
        exact aw_ireturn rfl dX12_bestPuff_129
      · refine aw_aload_n 0 dX12_bestPuff_47 rfl rfl ?_
        refine aw_iconst 5 dX12_bestPuff_48 (by decide) ?_
        refine aw_callVW_I (c12_refuse s_2 5) (io_12 (by decide)) ci_12 (by decide) mk_12_refuse w_1921 w_101 w_1919 rfl rfl (Nat.le_of_ble_eq_true rfl) dX12_bestPuff_49 (fun v_16 s_17 => ?_)
        exact aw_ireturn rfl dX12_bestPuff_52
  · refine aw_aload_n 0 dX12_bestPuff_19 rfl rfl ?_
    refine aw_iconst 2 dX12_bestPuff_20 (by decide) ?_
    refine aw_callVW_I (c12_refuse s_2 2) (io_12 (by decide)) ci_12 (by decide) mk_12_refuse w_1921 w_101 w_1919 rfl rfl (Nat.le_of_ble_eq_true rfl) dX12_bestPuff_21 (fun v_18 s_19 => ?_)
    exact aw_ireturn rfl dX12_bestPuff_24
def F12_bestBeat_L67 (x1 : Int32) (x2 : Int32) (x3 : Int32) (x4 : Int32) (x5 : Int32) : Nat → Mem → Int32 → Int32 → Option ((Int32) × Mem)
  | 0 => fun _ _ _ => none
  | n + 1 => fun σ x6 x7 =>
    if 4 ≤ x7 then (some (x6, σ)) else ((ald 3000 (gI σ 12 0 5) 7).bind fun v_8 => bd (F12_counts σ x1 x2 x3 x7 x4 x5 v_8) fun _ s_9 => bd (F12_isBetter s_9) fun v_10 s_11 => if v_10 = true then ((F12_bestBeat_L67 x1 x2 x3 x4 x5 n) s_11 x7 (x7 + 1)) else ((F12_bestBeat_L67 x1 x2 x3 x4 x5 n) s_11 x6 (x7 + 1)))
set_option maxRecDepth 20000 in
theorem c12_bestBeat_L67 {l : Launch} {D : va_G} {ad : Nat → Nat → Nat → Nat} {cid : Nat → Nat → Nat → ClassId} {α : Type} {emb : α → Option Value} (x1 : Int32) (x2 : Int32) (x3 : Int32) (x4 : Int32) (x5 : Int32) {G : Int32 → Mem → Option (α × Mem)} (kx : ∀ r σ, AW (XM l D ad cid) M12_bestBeat 5 emb [(0, .ref (ad 12 0 0)), (6, .int r)] 110 [] σ (G r σ)) : ∀ (n : Nat) (σ : Mem) (x6 : Int32) (x7 : Int32), AW (XM l D ad cid) M12_bestBeat 5 emb [(0, .ref (ad 12 0 0)), (1, .int x1), (2, .int x2), (3, .int x3), (4, .int x4), (5, .int x5), (6, .int x6), (7, .int x7)] 67 [] σ (bd (F12_bestBeat_L67 x1 x2 x3 x4 x5 n σ x6 x7) G) := by
  intro n
  induction n with
  | zero => intros; exact aw_none
  | succ n ih =>
    intro σ x6 x7
    refine aw_bdB ?_
    rw [F12_bestBeat_L67.eq_2]
    refine aw_iload 7 dX12_bestBeat_67 rfl ?_
    refine aw_iconst 4 dX12_bestBeat_69 (by decide) ?_
    refine aw_icmp_ge 110 dX12_bestBeat_70 (by decide) ?_ ?_
    · refine aw_ls (ls' := [(0, .ref (ad 12 0 0)), (6, .int x6)]) [0, 6] rfl ?_
      exact kx x6 σ
    · refine aw_aload_n 0 dX12_bestBeat_73 rfl rfl ?_
      refine aw_iload_n 1 dX12_bestBeat_74 rfl rfl ?_
      refine aw_iload_n 2 dX12_bestBeat_75 rfl rfl ?_
      refine aw_iload_n 3 dX12_bestBeat_76 rfl rfl ?_
      refine aw_iload 7 dX12_bestBeat_77 rfl ?_
      refine aw_iload 4 dX12_bestBeat_79 rfl ?_
      refine aw_iload 5 dX12_bestBeat_81 rfl ?_
      refine aw_aload_n 0 dX12_bestBeat_83 rfl rfl ?_
      refine aw_getf (fg_12_20 (by decide)) ci_12 (by decide) w_1478 dX12_bestBeat_84 ?_
      refine aw_bipush 7 dX12_bestBeat_87 (by decide) ?_
      refine aw_iaload (ar_12_5 (by decide)) dX12_bestBeat_89 (fun v_8 => ?_)
      refine aw_callVW_U (c12_counts σ x1 x2 x3 x7 x4 x5 v_8) (io_12 (by decide)) ci_12 (by decide) mk_12_counts w_2048 w_116 w_2046 rfl rfl (Nat.le_of_ble_eq_true rfl) dX12_bestBeat_90 (fun _ s_9 => ?_)
      refine aw_aload_n 0 dX12_bestBeat_93 rfl rfl ?_
      refine aw_callVW_B (c12_isBetter s_9 ) (io_12 (by decide)) ci_12 (by decide) mk_12_isBetter w_2069 w_119 w_2067 rfl rfl (Nat.le_of_ble_eq_true rfl) dX12_bestBeat_94 (fun v_10 s_11 => ?_)
      refine aw_bif_eq 104 dX12_bestBeat_97 (by decide) ?_ ?_
      · refine aw_iinc (ls' := [(0, .ref (ad 12 0 0)), (1, .int x1), (2, .int x2), (3, .int x3), (4, .int x4), (5, .int x5), (6, .int x6), (7, .int (x7 + 1))]) (x7 + 1) 7 [1, 2, 3, 4, 5, 6, 7, 0] dX12_bestBeat_104 rfl (by rfl) (by decide) rfl ?_
        refine aw_goto 67 dX12_bestBeat_107 (by decide) ?_
        exact ih s_11 x6 (x7 + 1)
      · refine aw_iload 7 dX12_bestBeat_100 rfl ?_
        refine aw_istore (ls' := [(0, .ref (ad 12 0 0)), (1, .int x1), (2, .int x2), (3, .int x3), (4, .int x4), (5, .int x5), (6, .int x7), (7, .int x7)]) [1, 2, 3, 4, 5, 6, 0, 7] dX12_bestBeat_102 (by decide) rfl ?_
        refine aw_iinc (ls' := [(0, .ref (ad 12 0 0)), (1, .int x1), (2, .int x2), (3, .int x3), (4, .int x4), (5, .int x5), (6, .int x7), (7, .int (x7 + 1))]) (x7 + 1) 7 [1, 2, 3, 4, 5, 6, 7, 0] dX12_bestBeat_104 rfl (by rfl) (by decide) rfl ?_
        refine aw_goto 67 dX12_bestBeat_107 (by decide) ?_
        exact ih s_11 x7 (x7 + 1)
def F12_bestBeat (σ : Mem) (x1 : Int32) (x2 : Int32) (x3 : Int32) (x4 : Int32) (x5 : Int32) : Option (Int32 × Mem) :=
  bnd (sI σ 12 0 0 1 0) fun s_1 => bnd (sI s_1 12 0 0 0 0) fun s_2 => (F12_isShot s_2 x1 x2).bind fun v_3 => if v_3 = true then ((ald 3000 (gI s_2 12 0 5) (53 + x1)).bind fun v_4 => if (F12_isPuffing x3 v_4) = true then (if (F12_isAim x4 x5) = true then (bd (F12_noBest s_2) fun _ s_7 => bd (F12_bestBeat_L67 x1 x2 x3 x4 x5 fuelK s_7 0 0) fun r_12 s_13 => bd (F12_fraction s_13 (gL s_13 12 0 0 35) (gL s_13 12 0 0 36)) fun v_14 s_15 => some (r_12, s_15)) else (bd (F12_refuse s_2 5) fun v_16 s_17 => some (v_16, s_17))) else (bd (F12_refuse s_2 5) fun v_5 s_6 => some (v_5, s_6))) else (bd (F12_refuse s_2 2) fun v_18 s_19 => some (v_18, s_19))
set_option maxRecDepth 20000 in
theorem c12_bestBeat {l : Launch} {D : va_G} {ad : Nat → Nat → Nat → Nat} {cid : Nat → Nat → Nat → ClassId} (σ : Mem) (x1 : Int32) (x2 : Int32) (x3 : Int32) (x4 : Int32) (x5 : Int32) : AMF (XM l D ad cid) M12_bestBeat 5 eI [.ref (ad 12 0 0), .int x1, .int x2, .int x3, .int x4, .int x5] σ (F12_bestBeat σ x1 x2 x3 x4 x5) := by
  refine AM.ofW (by decide +kernel) (Nat.le_of_ble_eq_true rfl) (ls := [(0, .ref (ad 12 0 0)), (1, .int x1), (2, .int x2), (3, .int x3), (4, .int x4), (5, .int x5)]) rfl ?_
  refine aw_entry ?_
  unfold F12_bestBeat
  refine aw_aload_n 0 dX12_bestBeat_0 rfl rfl ?_
  refine aw_iconst 0 dX12_bestBeat_1 (by decide) ?_
  refine aw_putI (fs_12_1 (by decide)) ci_12 (by decide) rfl rfl w_1459 dX12_bestBeat_2 ?_
  refine aw_bndM (fun s_1 => ?_)
  refine aw_aload_n 0 dX12_bestBeat_5 rfl rfl ?_
  refine aw_iconst 0 dX12_bestBeat_6 (by decide) ?_
  refine aw_putI (fs_12_0 (by decide)) ci_12 (by decide) rfl rfl w_1458 dX12_bestBeat_7 ?_
  refine aw_bndM (fun s_2 => ?_)
  refine aw_aload_n 0 dX12_bestBeat_10 rfl rfl ?_
  refine aw_iload_n 1 dX12_bestBeat_11 rfl rfl ?_
  refine aw_iload_n 2 dX12_bestBeat_12 rfl rfl ?_
  refine aw_callVO_B (c12_isShot s_2 x1 x2) (io_12 (by decide)) ci_12 (by decide) mk_12_isShot w_2044 w_115 w_2042 rfl rfl (Nat.le_of_ble_eq_true rfl) dX12_bestBeat_13 (fun v_3 => ?_)
  refine aw_bif_ne 25 dX12_bestBeat_16 (by decide) ?_ ?_
  · refine aw_iload_n 3 dX12_bestBeat_25 rfl rfl ?_
    refine aw_aload_n 0 dX12_bestBeat_26 rfl rfl ?_
    refine aw_getf (fg_12_20 (by decide)) ci_12 (by decide) w_1478 dX12_bestBeat_27 ?_
    refine aw_bipush 53 dX12_bestBeat_30 (by decide) ?_
    refine aw_iload_n 1 dX12_bestBeat_32 rfl rfl ?_
    refine aw_iadd dX12_bestBeat_33 ?_
    refine aw_iaload (ar_12_5 (by decide)) dX12_bestBeat_34 (fun v_4 => ?_)
    refine aw_callST_B (c12_isPuffing s_2 x3 v_4) (by decide) mk_12_isPuffing w_1963 w_1962 rfl rfl (Nat.le_of_ble_eq_true rfl) dX12_bestBeat_35 ?_
    refine aw_bif_eq 51 dX12_bestBeat_38 (by decide) ?_ ?_
    · refine aw_aload_n 0 dX12_bestBeat_51 rfl rfl ?_
      refine aw_iconst 5 dX12_bestBeat_52 (by decide) ?_
      refine aw_callVW_I (c12_refuse s_2 5) (io_12 (by decide)) ci_12 (by decide) mk_12_refuse w_1921 w_101 w_1919 rfl rfl (Nat.le_of_ble_eq_true rfl) dX12_bestBeat_53 (fun v_5 s_6 => ?_)
      exact aw_ireturn rfl dX12_bestBeat_56
    · refine aw_iload 4 dX12_bestBeat_41 rfl ?_
      refine aw_iload 5 dX12_bestBeat_43 rfl ?_
      refine aw_callST_B (c12_isAim s_2 x4 x5) (by decide) mk_12_isAim w_1996 w_1995 rfl rfl (Nat.le_of_ble_eq_true rfl) dX12_bestBeat_45 ?_
      refine aw_bif_ne 57 dX12_bestBeat_48 (by decide) ?_ ?_
      · refine aw_aload_n 0 dX12_bestBeat_57 rfl rfl ?_
        refine aw_callVW_U (c12_noBest s_2 ) (io_12 (by decide)) ci_12 (by decide) mk_12_noBest w_2065 w_118 w_2063 rfl rfl (Nat.le_of_ble_eq_true rfl) dX12_bestBeat_58 (fun _ s_7 => ?_)
        refine aw_iconst 0 dX12_bestBeat_61 (by decide) ?_
        refine aw_istore (ls' := [(0, .ref (ad 12 0 0)), (1, .int x1), (2, .int x2), (3, .int x3), (4, .int x4), (5, .int x5), (6, .int 0)]) [1, 2, 3, 4, 5, 6, 0] dX12_bestBeat_62 (by decide) rfl ?_
        refine aw_iconst 0 dX12_bestBeat_64 (by decide) ?_
        refine aw_istore (ls' := [(0, .ref (ad 12 0 0)), (1, .int x1), (2, .int x2), (3, .int x3), (4, .int x4), (5, .int x5), (6, .int 0), (7, .int 0)]) [1, 2, 3, 4, 5, 6, 7, 0] dX12_bestBeat_65 (by decide) rfl ?_
        refine aw_assocW ?_
        refine c12_bestBeat_L67 x1 x2 x3 x4 x5 (fun r_12 s_13 => ?_) fuelK s_7 0 0
        refine aw_aload_n 0 dX12_bestBeat_110 rfl rfl ?_
        refine aw_aload_n 0 dX12_bestBeat_111 rfl rfl ?_
        refine aw_getf (fg_12_35 (by decide)) ci_12 (by decide) w_1493 dX12_bestBeat_112 ?_
        refine aw_aload_n 0 dX12_bestBeat_115 rfl rfl ?_
        refine aw_getf (fg_12_36 (by decide)) ci_12 (by decide) w_1494 dX12_bestBeat_116 ?_
        refine aw_callVW_B (c12_fraction s_13 (gL s_13 12 0 0 35) (gL s_13 12 0 0 36)) (io_12 (by decide)) ci_12 (by decide) mk_12_fraction w_2052 w_117 w_2050 rfl rfl (Nat.le_of_ble_eq_true rfl) dX12_bestBeat_119 (fun v_14 s_15 => ?_)
        refine aw_pop dX12_bestBeat_122 rfl ?_
        refine aw_iload 1 dX12_bestBeat_123 rfl ?_
        exact aw_ireturn rfl dX12_bestBeat_125
      · refine aw_aload_n 0 dX12_bestBeat_51 rfl rfl ?_
        refine aw_iconst 5 dX12_bestBeat_52 (by decide) ?_
        refine aw_callVW_I (c12_refuse s_2 5) (io_12 (by decide)) ci_12 (by decide) mk_12_refuse w_1921 w_101 w_1919 rfl rfl (Nat.le_of_ble_eq_true rfl) dX12_bestBeat_53 (fun v_16 s_17 => ?_)
        exact aw_ireturn rfl dX12_bestBeat_56
  · refine aw_aload_n 0 dX12_bestBeat_19 rfl rfl ?_
    refine aw_iconst 2 dX12_bestBeat_20 (by decide) ?_
    refine aw_callVW_I (c12_refuse s_2 2) (io_12 (by decide)) ci_12 (by decide) mk_12_refuse w_1921 w_101 w_1919 rfl rfl (Nat.le_of_ble_eq_true rfl) dX12_bestBeat_21 (fun v_18 s_19 => ?_)
    exact aw_ireturn rfl dX12_bestBeat_24
def F12_longest_L90 (x1 : Int32) (x2 : Int32) (x3 : Int32) (x4 : Int32) (x5 : Int32) (x6 : Int32) (x7 : Int32) : Nat → Mem → Int32 → Int32 → Option ((Int32) × Mem)
  | 0 => fun _ _ _ => none
  | n + 1 => fun σ x8 x9 =>
    if 48 < x9 then (some (x8, σ)) else (chk 3000 0 <| bnd (sI σ 12 0 5 (Int32.toNatClampNeg 0) x9) fun s_11 => (ald 3000 (gI s_11 12 0 5) 7).bind fun v_12 => bd (F12_counts s_11 x1 x2 x3 x4 x5 x6 v_12) fun _ s_13 => bd (F12_isBetter s_13) fun v_14 s_15 => if v_14 = true then ((F12_longest_L90 x1 x2 x3 x4 x5 x6 x7 n) s_15 x9 (x9 + 1)) else ((F12_longest_L90 x1 x2 x3 x4 x5 x6 x7 n) s_15 x8 (x9 + 1)))
set_option maxRecDepth 20000 in
theorem c12_longest_L90 {l : Launch} {D : va_G} {ad : Nat → Nat → Nat → Nat} {cid : Nat → Nat → Nat → ClassId} {α : Type} {emb : α → Option Value} (x1 : Int32) (x2 : Int32) (x3 : Int32) (x4 : Int32) (x5 : Int32) (x6 : Int32) (x7 : Int32) {G : Int32 → Mem → Option (α × Mem)} (kx : ∀ r σ, AW (XM l D ad cid) M12_longest 5 emb [(0, .ref (ad 12 0 0)), (7, .int x7), (8, .int r)] 142 [] σ (G r σ)) : ∀ (n : Nat) (σ : Mem) (x8 : Int32) (x9 : Int32), AW (XM l D ad cid) M12_longest 5 emb [(0, .ref (ad 12 0 0)), (1, .int x1), (2, .int x2), (3, .int x3), (4, .int x4), (5, .int x5), (6, .int x6), (7, .int x7), (8, .int x8), (9, .int x9)] 90 [] σ (bd (F12_longest_L90 x1 x2 x3 x4 x5 x6 x7 n σ x8 x9) G) := by
  intro n
  induction n with
  | zero => intros; exact aw_none
  | succ n ih =>
    intro σ x8 x9
    refine aw_bdB ?_
    rw [F12_longest_L90.eq_2]
    refine aw_iload 9 dX12_longest_90 rfl ?_
    refine aw_bipush 48 dX12_longest_92 (by decide) ?_
    refine aw_icmp_gt 142 dX12_longest_94 (by decide) ?_ ?_
    · refine aw_ls (ls' := [(0, .ref (ad 12 0 0)), (7, .int x7), (8, .int x8)]) [0, 7, 8] rfl ?_
      exact kx x8 σ
    · refine aw_aload_n 0 dX12_longest_97 rfl rfl ?_
      refine aw_getf (fg_12_20 (by decide)) ci_12 (by decide) w_1478 dX12_longest_98 ?_
      refine aw_iconst 0 dX12_longest_101 (by decide) ?_
      refine aw_iload 9 dX12_longest_102 rfl ?_
      refine aw_iastore (ar_12_5 (by decide)) dX12_longest_104 ?_
      refine aw_bndM (fun s_11 => ?_)
      refine aw_aload_n 0 dX12_longest_105 rfl rfl ?_
      refine aw_iload_n 1 dX12_longest_106 rfl rfl ?_
      refine aw_iload_n 2 dX12_longest_107 rfl rfl ?_
      refine aw_iload_n 3 dX12_longest_108 rfl rfl ?_
      refine aw_iload 4 dX12_longest_109 rfl ?_
      refine aw_iload 5 dX12_longest_111 rfl ?_
      refine aw_iload 6 dX12_longest_113 rfl ?_
      refine aw_aload_n 0 dX12_longest_115 rfl rfl ?_
      refine aw_getf (fg_12_20 (by decide)) ci_12 (by decide) w_1478 dX12_longest_116 ?_
      refine aw_bipush 7 dX12_longest_119 (by decide) ?_
      refine aw_iaload (ar_12_5 (by decide)) dX12_longest_121 (fun v_12 => ?_)
      refine aw_callVW_U (c12_counts s_11 x1 x2 x3 x4 x5 x6 v_12) (io_12 (by decide)) ci_12 (by decide) mk_12_counts w_2048 w_116 w_2046 rfl rfl (Nat.le_of_ble_eq_true rfl) dX12_longest_122 (fun _ s_13 => ?_)
      refine aw_aload_n 0 dX12_longest_125 rfl rfl ?_
      refine aw_callVW_B (c12_isBetter s_13 ) (io_12 (by decide)) ci_12 (by decide) mk_12_isBetter w_2069 w_119 w_2067 rfl rfl (Nat.le_of_ble_eq_true rfl) dX12_longest_126 (fun v_14 s_15 => ?_)
      refine aw_bif_eq 136 dX12_longest_129 (by decide) ?_ ?_
      · refine aw_iinc (ls' := [(0, .ref (ad 12 0 0)), (1, .int x1), (2, .int x2), (3, .int x3), (4, .int x4), (5, .int x5), (6, .int x6), (7, .int x7), (8, .int x8), (9, .int (x9 + 1))]) (x9 + 1) 9 [1, 2, 3, 4, 5, 6, 7, 8, 9, 0] dX12_longest_136 rfl (by rfl) (by decide) rfl ?_
        refine aw_goto 90 dX12_longest_139 (by decide) ?_
        exact ih s_15 x8 (x9 + 1)
      · refine aw_iload 9 dX12_longest_132 rfl ?_
        refine aw_istore (ls' := [(0, .ref (ad 12 0 0)), (1, .int x1), (2, .int x2), (3, .int x3), (4, .int x4), (5, .int x5), (6, .int x6), (7, .int x7), (8, .int x9), (9, .int x9)]) [1, 2, 3, 4, 5, 6, 7, 8, 0, 9] dX12_longest_134 (by decide) rfl ?_
        refine aw_iinc (ls' := [(0, .ref (ad 12 0 0)), (1, .int x1), (2, .int x2), (3, .int x3), (4, .int x4), (5, .int x5), (6, .int x6), (7, .int x7), (8, .int x9), (9, .int (x9 + 1))]) (x9 + 1) 9 [1, 2, 3, 4, 5, 6, 7, 8, 9, 0] dX12_longest_136 rfl (by rfl) (by decide) rfl ?_
        refine aw_goto 90 dX12_longest_139 (by decide) ?_
        exact ih s_15 x9 (x9 + 1)
def F12_longest (σ : Mem) (x1 : Int32) (x2 : Int32) (x3 : Int32) (x4 : Int32) (x5 : Int32) (x6 : Int32) : Option (Int32 × Mem) :=
  bnd (sI σ 12 0 0 1 0) fun s_1 => bnd (sI s_1 12 0 0 0 0) fun s_2 => (F12_isShot s_2 x1 x2).bind fun v_3 => if v_3 = true then ((ald 3000 (gI s_2 12 0 5) (53 + x1)).bind fun v_4 => if (F12_isPuffing x3 v_4) = true then (if (F12_isIn (Int32.toInt64 x4) 0 3) = true then (if (F12_isAim x5 x6) = true then (bd (F12_noBest s_2) fun _ s_9 => (ald 3000 (gI s_9 12 0 5) 0).bind fun v_10 => bd (F12_longest_L90 x1 x2 x3 x4 x5 x6 v_10 fuelK s_9 12 12) fun r_16 s_17 => chk 3000 0 <| bnd (sI s_17 12 0 5 (Int32.toNatClampNeg 0) v_10) fun s_18 => bd (F12_fraction s_18 (gL s_18 12 0 0 35) (gL s_18 12 0 0 36)) fun v_19 s_20 => some (r_16, s_20)) else (bd (F12_refuse s_2 5) fun v_21 s_22 => some (v_21, s_22))) else (bd (F12_refuse s_2 5) fun v_7 s_8 => some (v_7, s_8))) else (bd (F12_refuse s_2 5) fun v_5 s_6 => some (v_5, s_6))) else (bd (F12_refuse s_2 2) fun v_23 s_24 => some (v_23, s_24))
set_option maxRecDepth 20000 in
theorem c12_longest {l : Launch} {D : va_G} {ad : Nat → Nat → Nat → Nat} {cid : Nat → Nat → Nat → ClassId} (σ : Mem) (x1 : Int32) (x2 : Int32) (x3 : Int32) (x4 : Int32) (x5 : Int32) (x6 : Int32) : AMF (XM l D ad cid) M12_longest 5 eI [.ref (ad 12 0 0), .int x1, .int x2, .int x3, .int x4, .int x5, .int x6] σ (F12_longest σ x1 x2 x3 x4 x5 x6) := by
  refine AM.ofW (by decide +kernel) (Nat.le_of_ble_eq_true rfl) (ls := [(0, .ref (ad 12 0 0)), (1, .int x1), (2, .int x2), (3, .int x3), (4, .int x4), (5, .int x5), (6, .int x6)]) rfl ?_
  refine aw_entry ?_
  unfold F12_longest
  refine aw_aload_n 0 dX12_longest_0 rfl rfl ?_
  refine aw_iconst 0 dX12_longest_1 (by decide) ?_
  refine aw_putI (fs_12_1 (by decide)) ci_12 (by decide) rfl rfl w_1459 dX12_longest_2 ?_
  refine aw_bndM (fun s_1 => ?_)
  refine aw_aload_n 0 dX12_longest_5 rfl rfl ?_
  refine aw_iconst 0 dX12_longest_6 (by decide) ?_
  refine aw_putI (fs_12_0 (by decide)) ci_12 (by decide) rfl rfl w_1458 dX12_longest_7 ?_
  refine aw_bndM (fun s_2 => ?_)
  refine aw_aload_n 0 dX12_longest_10 rfl rfl ?_
  refine aw_iload_n 1 dX12_longest_11 rfl rfl ?_
  refine aw_iload_n 2 dX12_longest_12 rfl rfl ?_
  refine aw_callVO_B (c12_isShot s_2 x1 x2) (io_12 (by decide)) ci_12 (by decide) mk_12_isShot w_2044 w_115 w_2042 rfl rfl (Nat.le_of_ble_eq_true rfl) dX12_longest_13 (fun v_3 => ?_)
  refine aw_bif_ne 25 dX12_longest_16 (by decide) ?_ ?_
  · refine aw_iload_n 3 dX12_longest_25 rfl rfl ?_
    refine aw_aload_n 0 dX12_longest_26 rfl rfl ?_
    refine aw_getf (fg_12_20 (by decide)) ci_12 (by decide) w_1478 dX12_longest_27 ?_
    refine aw_bipush 53 dX12_longest_30 (by decide) ?_
    refine aw_iload_n 1 dX12_longest_32 rfl rfl ?_
    refine aw_iadd dX12_longest_33 ?_
    refine aw_iaload (ar_12_5 (by decide)) dX12_longest_34 (fun v_4 => ?_)
    refine aw_callST_B (c12_isPuffing s_2 x3 v_4) (by decide) mk_12_isPuffing w_1963 w_1962 rfl rfl (Nat.le_of_ble_eq_true rfl) dX12_longest_35 ?_
    refine aw_bif_eq 64 dX12_longest_38 (by decide) ?_ ?_
    · refine aw_aload_n 0 dX12_longest_64 rfl rfl ?_
      refine aw_iconst 5 dX12_longest_65 (by decide) ?_
      refine aw_callVW_I (c12_refuse s_2 5) (io_12 (by decide)) ci_12 (by decide) mk_12_refuse w_1921 w_101 w_1919 rfl rfl (Nat.le_of_ble_eq_true rfl) dX12_longest_66 (fun v_5 s_6 => ?_)
      exact aw_ireturn rfl dX12_longest_69
    · refine aw_iload 4 dX12_longest_41 rfl ?_
      refine aw_i2l dX12_longest_43 ?_
      refine aw_lconst 0 dX12_longest_44 (by decide) ?_
      refine aw_ldc2 w_1981 dX12_longest_45 ?_
      refine aw_callST_B (c12_isIn s_2 (Int32.toInt64 x4) 0 3) (by decide) mk_12_isIn w_1754 w_1753 rfl rfl (Nat.le_of_ble_eq_true rfl) dX12_longest_48 ?_
      refine aw_bif_eq 64 dX12_longest_51 (by decide) ?_ ?_
      · refine aw_aload_n 0 dX12_longest_64 rfl rfl ?_
        refine aw_iconst 5 dX12_longest_65 (by decide) ?_
        refine aw_callVW_I (c12_refuse s_2 5) (io_12 (by decide)) ci_12 (by decide) mk_12_refuse w_1921 w_101 w_1919 rfl rfl (Nat.le_of_ble_eq_true rfl) dX12_longest_66 (fun v_7 s_8 => ?_)
        exact aw_ireturn rfl dX12_longest_69
      · refine aw_iload 5 dX12_longest_54 rfl ?_
        refine aw_iload 6 dX12_longest_56 rfl ?_
        refine aw_callST_B (c12_isAim s_2 x5 x6) (by decide) mk_12_isAim w_1996 w_1995 rfl rfl (Nat.le_of_ble_eq_true rfl) dX12_longest_58 ?_
        refine aw_bif_ne 70 dX12_longest_61 (by decide) ?_ ?_
        · refine aw_aload_n 0 dX12_longest_70 rfl rfl ?_
          refine aw_callVW_U (c12_noBest s_2 ) (io_12 (by decide)) ci_12 (by decide) mk_12_noBest w_2065 w_118 w_2063 rfl rfl (Nat.le_of_ble_eq_true rfl) dX12_longest_71 (fun _ s_9 => ?_)
          refine aw_aload_n 0 dX12_longest_74 rfl rfl ?_
          refine aw_getf (fg_12_20 (by decide)) ci_12 (by decide) w_1478 dX12_longest_75 ?_
          refine aw_iconst 0 dX12_longest_78 (by decide) ?_
          refine aw_iaload (ar_12_5 (by decide)) dX12_longest_79 (fun v_10 => ?_)
          refine aw_istore (ls' := [(0, .ref (ad 12 0 0)), (1, .int x1), (2, .int x2), (3, .int x3), (4, .int x4), (5, .int x5), (6, .int x6), (7, .int v_10)]) [1, 2, 3, 4, 5, 6, 7, 0] dX12_longest_80 (by decide) rfl ?_
          refine aw_bipush 12 dX12_longest_82 (by decide) ?_
          refine aw_istore (ls' := [(0, .ref (ad 12 0 0)), (1, .int x1), (2, .int x2), (3, .int x3), (4, .int x4), (5, .int x5), (6, .int x6), (7, .int v_10), (8, .int 12)]) [1, 2, 3, 4, 5, 6, 7, 8, 0] dX12_longest_84 (by decide) rfl ?_
          refine aw_bipush 12 dX12_longest_86 (by decide) ?_
          refine aw_istore (ls' := [(0, .ref (ad 12 0 0)), (1, .int x1), (2, .int x2), (3, .int x3), (4, .int x4), (5, .int x5), (6, .int x6), (7, .int v_10), (8, .int 12), (9, .int 12)]) [1, 2, 3, 4, 5, 6, 7, 8, 9, 0] dX12_longest_88 (by decide) rfl ?_
          refine aw_assocW ?_
          refine c12_longest_L90 x1 x2 x3 x4 x5 x6 v_10 (fun r_16 s_17 => ?_) fuelK s_9 12 12
          refine aw_aload_n 0 dX12_longest_142 rfl rfl ?_
          refine aw_getf (fg_12_20 (by decide)) ci_12 (by decide) w_1478 dX12_longest_143 ?_
          refine aw_iconst 0 dX12_longest_146 (by decide) ?_
          refine aw_iload 1 dX12_longest_147 rfl ?_
          refine aw_iastore (ar_12_5 (by decide)) dX12_longest_149 ?_
          refine aw_bndM (fun s_18 => ?_)
          refine aw_aload_n 0 dX12_longest_150 rfl rfl ?_
          refine aw_aload_n 0 dX12_longest_151 rfl rfl ?_
          refine aw_getf (fg_12_35 (by decide)) ci_12 (by decide) w_1493 dX12_longest_152 ?_
          refine aw_aload_n 0 dX12_longest_155 rfl rfl ?_
          refine aw_getf (fg_12_36 (by decide)) ci_12 (by decide) w_1494 dX12_longest_156 ?_
          refine aw_callVW_B (c12_fraction s_18 (gL s_18 12 0 0 35) (gL s_18 12 0 0 36)) (io_12 (by decide)) ci_12 (by decide) mk_12_fraction w_2052 w_117 w_2050 rfl rfl (Nat.le_of_ble_eq_true rfl) dX12_longest_159 (fun v_19 s_20 => ?_)
          refine aw_pop dX12_longest_162 rfl ?_
          refine aw_iload 2 dX12_longest_163 rfl ?_
          exact aw_ireturn rfl dX12_longest_165
        · refine aw_aload_n 0 dX12_longest_64 rfl rfl ?_
          refine aw_iconst 5 dX12_longest_65 (by decide) ?_
          refine aw_callVW_I (c12_refuse s_2 5) (io_12 (by decide)) ci_12 (by decide) mk_12_refuse w_1921 w_101 w_1919 rfl rfl (Nat.le_of_ble_eq_true rfl) dX12_longest_66 (fun v_21 s_22 => ?_)
          exact aw_ireturn rfl dX12_longest_69
  · refine aw_aload_n 0 dX12_longest_19 rfl rfl ?_
    refine aw_iconst 2 dX12_longest_20 (by decide) ?_
    refine aw_callVW_I (c12_refuse s_2 2) (io_12 (by decide)) ci_12 (by decide) mk_12_refuse w_1921 w_101 w_1919 rfl rfl (Nat.le_of_ble_eq_true rfl) dX12_longest_21 (fun v_23 s_24 => ?_)
    exact aw_ireturn rfl dX12_longest_24
def F12_bestPea_L84 (x1 : Int32) (x2 : Int32) (x3 : Int32) : Nat → Mem → Int32 → Int32 → Option ((Int32) × Mem)
  | 0 => fun _ _ _ => none
  | n + 1 => fun σ x4 x5 =>
    (ald 3000 (gI σ 12 0 5) 5).bind fun v_9 => if v_9 ≤ x5 then (some (x4, σ)) else ((ald 3000 (gI σ 12 0 5) 7).bind fun v_10 => bd (F12_counts σ x1 x5 x2 x3 0 0 v_10) fun _ s_11 => bd (F12_isBetter s_11) fun v_12 s_13 => if v_12 = true then ((F12_bestPea_L84 x1 x2 x3 n) s_13 x5 (x5 + 1)) else ((F12_bestPea_L84 x1 x2 x3 n) s_13 x4 (x5 + 1)))
set_option maxRecDepth 20000 in
theorem c12_bestPea_L84 {l : Launch} {D : va_G} {ad : Nat → Nat → Nat → Nat} {cid : Nat → Nat → Nat → ClassId} {α : Type} {emb : α → Option Value} (x1 : Int32) (x2 : Int32) (x3 : Int32) {G : Int32 → Mem → Option (α × Mem)} (kx : ∀ r σ, AW (XM l D ad cid) M12_bestPea 5 emb [(0, .ref (ad 12 0 0)), (4, .int r)] 130 [] σ (G r σ)) : ∀ (n : Nat) (σ : Mem) (x4 : Int32) (x5 : Int32), AW (XM l D ad cid) M12_bestPea 5 emb [(0, .ref (ad 12 0 0)), (1, .int x1), (2, .int x2), (3, .int x3), (4, .int x4), (5, .int x5)] 84 [] σ (bd (F12_bestPea_L84 x1 x2 x3 n σ x4 x5) G) := by
  intro n
  induction n with
  | zero => intros; exact aw_none
  | succ n ih =>
    intro σ x4 x5
    refine aw_bdB ?_
    rw [F12_bestPea_L84.eq_2]
    refine aw_iload 5 dX12_bestPea_84 rfl ?_
    refine aw_aload_n 0 dX12_bestPea_86 rfl rfl ?_
    refine aw_getf (fg_12_20 (by decide)) ci_12 (by decide) w_1478 dX12_bestPea_87 ?_
    refine aw_iconst 5 dX12_bestPea_90 (by decide) ?_
    refine aw_iaload (ar_12_5 (by decide)) dX12_bestPea_91 (fun v_9 => ?_)
    refine aw_icmp_ge 130 dX12_bestPea_92 (by decide) ?_ ?_
    · refine aw_ls (ls' := [(0, .ref (ad 12 0 0)), (4, .int x4)]) [0, 4] rfl ?_
      exact kx x4 σ
    · refine aw_aload_n 0 dX12_bestPea_95 rfl rfl ?_
      refine aw_iload_n 1 dX12_bestPea_96 rfl rfl ?_
      refine aw_iload 5 dX12_bestPea_97 rfl ?_
      refine aw_iload_n 2 dX12_bestPea_99 rfl rfl ?_
      refine aw_iload_n 3 dX12_bestPea_100 rfl rfl ?_
      refine aw_iconst 0 dX12_bestPea_101 (by decide) ?_
      refine aw_iconst 0 dX12_bestPea_102 (by decide) ?_
      refine aw_aload_n 0 dX12_bestPea_103 rfl rfl ?_
      refine aw_getf (fg_12_20 (by decide)) ci_12 (by decide) w_1478 dX12_bestPea_104 ?_
      refine aw_bipush 7 dX12_bestPea_107 (by decide) ?_
      refine aw_iaload (ar_12_5 (by decide)) dX12_bestPea_109 (fun v_10 => ?_)
      refine aw_callVW_U (c12_counts σ x1 x5 x2 x3 0 0 v_10) (io_12 (by decide)) ci_12 (by decide) mk_12_counts w_2048 w_116 w_2046 rfl rfl (Nat.le_of_ble_eq_true rfl) dX12_bestPea_110 (fun _ s_11 => ?_)
      refine aw_aload_n 0 dX12_bestPea_113 rfl rfl ?_
      refine aw_callVW_B (c12_isBetter s_11 ) (io_12 (by decide)) ci_12 (by decide) mk_12_isBetter w_2069 w_119 w_2067 rfl rfl (Nat.le_of_ble_eq_true rfl) dX12_bestPea_114 (fun v_12 s_13 => ?_)
      refine aw_bif_eq 124 dX12_bestPea_117 (by decide) ?_ ?_
      · refine aw_iinc (ls' := [(0, .ref (ad 12 0 0)), (1, .int x1), (2, .int x2), (3, .int x3), (4, .int x4), (5, .int (x5 + 1))]) (x5 + 1) 5 [1, 2, 3, 4, 5, 0] dX12_bestPea_124 rfl (by rfl) (by decide) rfl ?_
        refine aw_goto 84 dX12_bestPea_127 (by decide) ?_
        exact ih s_13 x4 (x5 + 1)
      · refine aw_iload 5 dX12_bestPea_120 rfl ?_
        refine aw_istore (ls' := [(0, .ref (ad 12 0 0)), (1, .int x1), (2, .int x2), (3, .int x3), (4, .int x5), (5, .int x5)]) [1, 2, 3, 4, 0, 5] dX12_bestPea_122 (by decide) rfl ?_
        refine aw_iinc (ls' := [(0, .ref (ad 12 0 0)), (1, .int x1), (2, .int x2), (3, .int x3), (4, .int x5), (5, .int (x5 + 1))]) (x5 + 1) 5 [1, 2, 3, 4, 5, 0] dX12_bestPea_124 rfl (by rfl) (by decide) rfl ?_
        refine aw_goto 84 dX12_bestPea_127 (by decide) ?_
        exact ih s_13 x5 (x5 + 1)
def F12_bestPea (σ : Mem) (x1 : Int32) (x2 : Int32) (x3 : Int32) : Option (Int32 × Mem) :=
  bnd (sI σ 12 0 0 1 0) fun s_1 => bnd (sI s_1 12 0 0 0 0) fun s_2 => (F12_isShooterAt s_2 x1).bind fun v_3 => if v_3 = true then ((ald 3000 (gI s_2 12 0 5) (53 + x1)).bind fun v_4 => if (F12_isPuffing x2 v_4) = true then (if (F12_isIn (Int32.toInt64 x3) 0 3) = true then ((ald 3000 (gI s_2 12 0 5) 5).bind fun v_7 => if v_7 = 0 then (bd (F12_refuse s_2 8) fun v_18 s_19 => some (v_18, s_19)) else (bd (F12_noBest s_2) fun _ s_8 => bd (F12_bestPea_L84 x1 x2 x3 fuelK s_8 0 0) fun r_14 s_15 => bd (F12_fraction s_15 (gL s_15 12 0 0 35) (gL s_15 12 0 0 36)) fun v_16 s_17 => some (r_14, s_17))) else (bd (F12_refuse s_2 5) fun v_20 s_21 => some (v_20, s_21))) else (bd (F12_refuse s_2 5) fun v_5 s_6 => some (v_5, s_6))) else (bd (F12_refuse s_2 2) fun v_22 s_23 => some (v_22, s_23))
set_option maxRecDepth 20000 in
theorem c12_bestPea {l : Launch} {D : va_G} {ad : Nat → Nat → Nat → Nat} {cid : Nat → Nat → Nat → ClassId} (σ : Mem) (x1 : Int32) (x2 : Int32) (x3 : Int32) : AMF (XM l D ad cid) M12_bestPea 5 eI [.ref (ad 12 0 0), .int x1, .int x2, .int x3] σ (F12_bestPea σ x1 x2 x3) := by
  refine AM.ofW (by decide +kernel) (Nat.le_of_ble_eq_true rfl) (ls := [(0, .ref (ad 12 0 0)), (1, .int x1), (2, .int x2), (3, .int x3)]) rfl ?_
  refine aw_entry ?_
  unfold F12_bestPea
  refine aw_aload_n 0 dX12_bestPea_0 rfl rfl ?_
  refine aw_iconst 0 dX12_bestPea_1 (by decide) ?_
  refine aw_putI (fs_12_1 (by decide)) ci_12 (by decide) rfl rfl w_1459 dX12_bestPea_2 ?_
  refine aw_bndM (fun s_1 => ?_)
  refine aw_aload_n 0 dX12_bestPea_5 rfl rfl ?_
  refine aw_iconst 0 dX12_bestPea_6 (by decide) ?_
  refine aw_putI (fs_12_0 (by decide)) ci_12 (by decide) rfl rfl w_1458 dX12_bestPea_7 ?_
  refine aw_bndM (fun s_2 => ?_)
  refine aw_aload_n 0 dX12_bestPea_10 rfl rfl ?_
  refine aw_iload_n 1 dX12_bestPea_11 rfl rfl ?_
  refine aw_callVO_B (c12_isShooterAt s_2 x1) (io_12 (by decide)) ci_12 (by decide) mk_12_isShooterAt w_1945 w_104 w_1943 rfl rfl (Nat.le_of_ble_eq_true rfl) dX12_bestPea_12 (fun v_3 => ?_)
  refine aw_bif_ne 24 dX12_bestPea_15 (by decide) ?_ ?_
  · refine aw_iload_n 2 dX12_bestPea_24 rfl rfl ?_
    refine aw_aload_n 0 dX12_bestPea_25 rfl rfl ?_
    refine aw_getf (fg_12_20 (by decide)) ci_12 (by decide) w_1478 dX12_bestPea_26 ?_
    refine aw_bipush 53 dX12_bestPea_29 (by decide) ?_
    refine aw_iload_n 1 dX12_bestPea_31 rfl rfl ?_
    refine aw_iadd dX12_bestPea_32 ?_
    refine aw_iaload (ar_12_5 (by decide)) dX12_bestPea_33 (fun v_4 => ?_)
    refine aw_callST_B (c12_isPuffing s_2 x2 v_4) (by decide) mk_12_isPuffing w_1963 w_1962 rfl rfl (Nat.le_of_ble_eq_true rfl) dX12_bestPea_34 ?_
    refine aw_bif_eq 52 dX12_bestPea_37 (by decide) ?_ ?_
    · refine aw_aload_n 0 dX12_bestPea_52 rfl rfl ?_
      refine aw_iconst 5 dX12_bestPea_53 (by decide) ?_
      refine aw_callVW_I (c12_refuse s_2 5) (io_12 (by decide)) ci_12 (by decide) mk_12_refuse w_1921 w_101 w_1919 rfl rfl (Nat.le_of_ble_eq_true rfl) dX12_bestPea_54 (fun v_5 s_6 => ?_)
      exact aw_ireturn rfl dX12_bestPea_57
    · refine aw_iload_n 3 dX12_bestPea_40 rfl rfl ?_
      refine aw_i2l dX12_bestPea_41 ?_
      refine aw_lconst 0 dX12_bestPea_42 (by decide) ?_
      refine aw_ldc2 w_1981 dX12_bestPea_43 ?_
      refine aw_callST_B (c12_isIn s_2 (Int32.toInt64 x3) 0 3) (by decide) mk_12_isIn w_1754 w_1753 rfl rfl (Nat.le_of_ble_eq_true rfl) dX12_bestPea_46 ?_
      refine aw_bif_ne 58 dX12_bestPea_49 (by decide) ?_ ?_
      · refine aw_aload_n 0 dX12_bestPea_58 rfl rfl ?_
        refine aw_getf (fg_12_20 (by decide)) ci_12 (by decide) w_1478 dX12_bestPea_59 ?_
        refine aw_iconst 5 dX12_bestPea_62 (by decide) ?_
        refine aw_iaload (ar_12_5 (by decide)) dX12_bestPea_63 (fun v_7 => ?_)
        refine aw_if_ne 74 dX12_bestPea_64 (by decide) ?_ ?_
        · refine aw_aload_n 0 dX12_bestPea_74 rfl rfl ?_
          refine aw_callVW_U (c12_noBest s_2 ) (io_12 (by decide)) ci_12 (by decide) mk_12_noBest w_2065 w_118 w_2063 rfl rfl (Nat.le_of_ble_eq_true rfl) dX12_bestPea_75 (fun _ s_8 => ?_)
          refine aw_iconst 0 dX12_bestPea_78 (by decide) ?_
          refine aw_istore (ls' := [(0, .ref (ad 12 0 0)), (1, .int x1), (2, .int x2), (3, .int x3), (4, .int 0)]) [1, 2, 3, 4, 0] dX12_bestPea_79 (by decide) rfl ?_
          refine aw_iconst 0 dX12_bestPea_81 (by decide) ?_
          refine aw_istore (ls' := [(0, .ref (ad 12 0 0)), (1, .int x1), (2, .int x2), (3, .int x3), (4, .int 0), (5, .int 0)]) [1, 2, 3, 4, 5, 0] dX12_bestPea_82 (by decide) rfl ?_
          refine aw_assocW ?_
          refine c12_bestPea_L84 x1 x2 x3 (fun r_14 s_15 => ?_) fuelK s_8 0 0
          refine aw_aload_n 0 dX12_bestPea_130 rfl rfl ?_
          refine aw_aload_n 0 dX12_bestPea_131 rfl rfl ?_
          refine aw_getf (fg_12_35 (by decide)) ci_12 (by decide) w_1493 dX12_bestPea_132 ?_
          refine aw_aload_n 0 dX12_bestPea_135 rfl rfl ?_
          refine aw_getf (fg_12_36 (by decide)) ci_12 (by decide) w_1494 dX12_bestPea_136 ?_
          refine aw_callVW_B (c12_fraction s_15 (gL s_15 12 0 0 35) (gL s_15 12 0 0 36)) (io_12 (by decide)) ci_12 (by decide) mk_12_fraction w_2052 w_117 w_2050 rfl rfl (Nat.le_of_ble_eq_true rfl) dX12_bestPea_139 (fun v_16 s_17 => ?_)
          refine aw_pop dX12_bestPea_142 rfl ?_
          refine aw_iload 1 dX12_bestPea_143 rfl ?_
          exact aw_ireturn rfl dX12_bestPea_145
        · refine aw_aload_n 0 dX12_bestPea_67 rfl rfl ?_
          refine aw_bipush 8 dX12_bestPea_68 (by decide) ?_
          refine aw_callVW_I (c12_refuse s_2 8) (io_12 (by decide)) ci_12 (by decide) mk_12_refuse w_1921 w_101 w_1919 rfl rfl (Nat.le_of_ble_eq_true rfl) dX12_bestPea_70 (fun v_18 s_19 => ?_)
          exact aw_ireturn rfl dX12_bestPea_73
      · refine aw_aload_n 0 dX12_bestPea_52 rfl rfl ?_
        refine aw_iconst 5 dX12_bestPea_53 (by decide) ?_
        refine aw_callVW_I (c12_refuse s_2 5) (io_12 (by decide)) ci_12 (by decide) mk_12_refuse w_1921 w_101 w_1919 rfl rfl (Nat.le_of_ble_eq_true rfl) dX12_bestPea_54 (fun v_20 s_21 => ?_)
        exact aw_ireturn rfl dX12_bestPea_57
  · refine aw_aload_n 0 dX12_bestPea_18 rfl rfl ?_
    refine aw_iconst 2 dX12_bestPea_19 (by decide) ?_
    refine aw_callVW_I (c12_refuse s_2 2) (io_12 (by decide)) ci_12 (by decide) mk_12_refuse w_1921 w_101 w_1919 rfl rfl (Nat.le_of_ble_eq_true rfl) dX12_bestPea_20 (fun v_22 s_23 => ?_)
    exact aw_ireturn rfl dX12_bestPea_23
def F12_seriesOf_p72 (rc : Mem → Int64 → Int32 → Int32 → Option ((Int64) × Mem)) (σ : Mem) (x1 : Int32) (x2 : Int32) (x3 : Int32) (x4 : Int32) (x5 : Int32) (x6 : Int32) (x7 : Int32) (y8 : Int64) (x10 : Int32) (x11 : Int32) : Option ((Int64) × Mem) :=
  if x7 = 0 then none else if (iRem x11 x7) = 0 then (rc σ y8 0 (x11 + 1)) else (rc σ y8 x10 (x11 + 1))
set_option maxRecDepth 20000 in
theorem c12_seriesOf_p72 {l : Launch} {D : va_G} {ad : Nat → Nat → Nat → Nat} {cid : Nat → Nat → Nat → ClassId} {α : Type} {emb : α → Option Value}  (x1 : Int32) (x2 : Int32) (x3 : Int32) (x4 : Int32) (x5 : Int32) (x6 : Int32) (x7 : Int32) {G : Int64 → Mem → Option (α × Mem)} (kx : ∀ r σ, AW (XM l D ad cid) M12_seriesOf 5 emb [(8, .long r)] 89 [] σ (G r σ)) {rc : Mem → Int64 → Int32 → Int32 → Option ((Int64) × Mem)} (ih : ∀ (σ : Mem) (y8 : Int64) (x10 : Int32) (x11 : Int32), AW (XM l D ad cid) M12_seriesOf 5 emb [(0, .ref (ad 12 0 0)), (1, .int x1), (2, .int x2), (3, .int x3), (4, .int x4), (5, .int x5), (6, .int x6), (7, .int x7), (8, .long y8), (10, .int x10), (11, .int x11)] 9 [] σ (bd (rc σ y8 x10 x11) G)) (σ : Mem) (y8 : Int64) (x10 : Int32) (x11 : Int32) : AW (XM l D ad cid) M12_seriesOf 5 emb [(0, .ref (ad 12 0 0)), (1, .int x1), (2, .int x2), (3, .int x3), (4, .int x4), (5, .int x5), (6, .int x6), (7, .int x7), (8, .long y8), (10, .int x10), (11, .int x11)] 72 [] σ ((F12_seriesOf_p72 rc σ x1 x2 x3 x4 x5 x6 x7 y8 x10 x11).bind (fun q => G q.1 q.2)) := by
  unfold F12_seriesOf_p72
  refine aw_iload 10 dX12_seriesOf_72 rfl ?_
  refine aw_iload 7 dX12_seriesOf_74 rfl ?_
  refine aw_irem dX12_seriesOf_76 ?_
  refine aw_if_ne 83 dX12_seriesOf_77 (by decide) ?_ ?_
  · refine aw_iinc (ls' := [(0, .ref (ad 12 0 0)), (1, .int x1), (2, .int x2), (3, .int x3), (4, .int x4), (5, .int x5), (6, .int x6), (7, .int x7), (8, .long y8), (10, .int x10), (11, .int (x11 + 1))]) (x11 + 1) 10 [1, 2, 3, 4, 5, 6, 7, 8, 9, 10, 0] dX12_seriesOf_83 rfl (by rfl) (by decide) rfl ?_
    refine aw_goto 9 dX12_seriesOf_86 (by decide) ?_
    exact ih σ y8 x10 (x11 + 1)
  · refine aw_iconst 0 dX12_seriesOf_80 (by decide) ?_
    refine aw_istore (ls' := [(0, .ref (ad 12 0 0)), (1, .int x1), (2, .int x2), (3, .int x3), (4, .int x4), (5, .int x5), (6, .int x6), (7, .int x7), (8, .long y8), (10, .int 0), (11, .int x11)]) [1, 2, 3, 4, 5, 6, 7, 8, 9, 0, 10] dX12_seriesOf_81 (by decide) rfl ?_
    refine aw_iinc (ls' := [(0, .ref (ad 12 0 0)), (1, .int x1), (2, .int x2), (3, .int x3), (4, .int x4), (5, .int x5), (6, .int x6), (7, .int x7), (8, .long y8), (10, .int 0), (11, .int (x11 + 1))]) (x11 + 1) 10 [1, 2, 3, 4, 5, 6, 7, 8, 9, 10, 0] dX12_seriesOf_83 rfl (by rfl) (by decide) rfl ?_
    refine aw_goto 9 dX12_seriesOf_86 (by decide) ?_
    exact ih σ y8 0 (x11 + 1)
def F12_seriesOf_L9 (x1 : Int32) (x2 : Int32) (x3 : Int32) (x4 : Int32) (x5 : Int32) (x6 : Int32) (x7 : Int32) : Nat → Mem → Int64 → Int32 → Int32 → Option ((Int64) × Mem)
  | 0 => fun _ _ _ _ => none
  | n + 1 => fun σ y8 x10 x11 =>
    if x6 < x11 then (some (y8, σ)) else (bd (F12_counts σ x1 x2 x3 2 x4 x5 x10) fun _ s_1 => if (Int32.toInt64 (gI s_1 12 0 0 33)) = 0 then none else bnd (y8 + ((Int32.toInt64 (gI s_1 12 0 0 34)) * (18 / (Int32.toInt64 (gI s_1 12 0 0 33))))) fun v_2 => (F12_fateOf s_1 x2 x3 x10).bind fun v_3 => if v_3 = 0 then (bnd (iMin 20 (x10 + 1)) fun v_4 => F12_seriesOf_p72 (F12_seriesOf_L9 x1 x2 x3 x4 x5 x6 x7 n) s_1 x1 x2 x3 x4 x5 x6 x7 v_2 v_4 x11) else (F12_seriesOf_p72 (F12_seriesOf_L9 x1 x2 x3 x4 x5 x6 x7 n) s_1 x1 x2 x3 x4 x5 x6 x7 v_2 x10 x11))
set_option maxRecDepth 20000 in
theorem c12_seriesOf_L9 {l : Launch} {D : va_G} {ad : Nat → Nat → Nat → Nat} {cid : Nat → Nat → Nat → ClassId} {α : Type} {emb : α → Option Value} (x1 : Int32) (x2 : Int32) (x3 : Int32) (x4 : Int32) (x5 : Int32) (x6 : Int32) (x7 : Int32) {G : Int64 → Mem → Option (α × Mem)} (kx : ∀ r σ, AW (XM l D ad cid) M12_seriesOf 5 emb [(8, .long r)] 89 [] σ (G r σ)) : ∀ (n : Nat) (σ : Mem) (y8 : Int64) (x10 : Int32) (x11 : Int32), AW (XM l D ad cid) M12_seriesOf 5 emb [(0, .ref (ad 12 0 0)), (1, .int x1), (2, .int x2), (3, .int x3), (4, .int x4), (5, .int x5), (6, .int x6), (7, .int x7), (8, .long y8), (10, .int x10), (11, .int x11)] 9 [] σ (bd (F12_seriesOf_L9 x1 x2 x3 x4 x5 x6 x7 n σ y8 x10 x11) G) := by
  intro n
  induction n with
  | zero => intros; exact aw_none
  | succ n ih =>
    intro σ y8 x10 x11
    refine aw_bdB ?_
    rw [F12_seriesOf_L9.eq_2]
    refine aw_iload 10 dX12_seriesOf_9 rfl ?_
    refine aw_iload 6 dX12_seriesOf_11 rfl ?_
    refine aw_icmp_gt 89 dX12_seriesOf_13 (by decide) ?_ ?_
    · refine aw_ls (ls' := [(8, .long y8)]) [8] rfl ?_
      exact kx y8 σ
    · refine aw_aload_n 0 dX12_seriesOf_16 rfl rfl ?_
      refine aw_iload_n 1 dX12_seriesOf_17 rfl rfl ?_
      refine aw_iload_n 2 dX12_seriesOf_18 rfl rfl ?_
      refine aw_iload_n 3 dX12_seriesOf_19 rfl rfl ?_
      refine aw_iconst 2 dX12_seriesOf_20 (by decide) ?_
      refine aw_iload 4 dX12_seriesOf_21 rfl ?_
      refine aw_iload 5 dX12_seriesOf_23 rfl ?_
      refine aw_iload 9 dX12_seriesOf_25 rfl ?_
      refine aw_callVW_U (c12_counts σ x1 x2 x3 2 x4 x5 x10) (io_12 (by decide)) ci_12 (by decide) mk_12_counts w_2048 w_116 w_2046 rfl rfl (Nat.le_of_ble_eq_true rfl) dX12_seriesOf_27 (fun _ s_1 => ?_)
      refine aw_lload 8 dX12_seriesOf_30 rfl ?_
      refine aw_aload_n 0 dX12_seriesOf_32 rfl rfl ?_
      refine aw_getf (fg_12_34 (by decide)) ci_12 (by decide) w_1492 dX12_seriesOf_33 ?_
      refine aw_i2l dX12_seriesOf_36 ?_
      refine aw_ldc2 w_1837 dX12_seriesOf_37 ?_
      refine aw_aload_n 0 dX12_seriesOf_40 rfl rfl ?_
      refine aw_getf (fg_12_33 (by decide)) ci_12 (by decide) w_1491 dX12_seriesOf_41 ?_
      refine aw_i2l dX12_seriesOf_44 ?_
      refine aw_ldiv dX12_seriesOf_45 ?_
      refine aw_lmul dX12_seriesOf_46 ?_
      refine aw_ladd dX12_seriesOf_47 ?_
      refine aw_bnd_long (fun v_2 => ?_)
      refine aw_lstore (ls' := [(0, .ref (ad 12 0 0)), (1, .int x1), (2, .int x2), (3, .int x3), (4, .int x4), (5, .int x5), (6, .int x6), (7, .int x7), (8, .long v_2), (10, .int x10), (11, .int x11)]) [1, 2, 3, 4, 5, 6, 7, 8, 0, 9, 10] dX12_seriesOf_48 (by decide) rfl ?_
      refine aw_aload_n 0 dX12_seriesOf_50 rfl rfl ?_
      refine aw_iload_n 2 dX12_seriesOf_51 rfl rfl ?_
      refine aw_iload_n 3 dX12_seriesOf_52 rfl rfl ?_
      refine aw_iload 9 dX12_seriesOf_53 rfl ?_
      refine aw_callVO_I (c12_fateOf s_1 x2 x3 x10) (io_12 (by decide)) ci_12 (by decide) mk_12_fateOf w_1971 w_107 w_1969 rfl rfl (Nat.le_of_ble_eq_true rfl) dX12_seriesOf_55 (fun v_3 => ?_)
      refine aw_if_ne 72 dX12_seriesOf_58 (by decide) ?_ ?_
      · exact c12_seriesOf_p72 x1 x2 x3 x4 x5 x6 x7 kx ih s_1 v_2 x10 x11
      · refine aw_bipush 20 dX12_seriesOf_61 (by decide) ?_
        refine aw_iload 9 dX12_seriesOf_63 rfl ?_
        refine aw_iconst 1 dX12_seriesOf_65 (by decide) ?_
        refine aw_iadd dX12_seriesOf_66 ?_
        refine aw_min w_2037 w_864 w_159 w_865 (Nat.le_of_ble_eq_true rfl) dX12_seriesOf_67 ?_
        refine aw_bnd_int (fun v_4 => ?_)
        refine aw_istore (ls' := [(0, .ref (ad 12 0 0)), (1, .int x1), (2, .int x2), (3, .int x3), (4, .int x4), (5, .int x5), (6, .int x6), (7, .int x7), (8, .long v_2), (10, .int v_4), (11, .int x11)]) [1, 2, 3, 4, 5, 6, 7, 8, 9, 0, 10] dX12_seriesOf_70 (by decide) rfl ?_
        exact c12_seriesOf_p72 x1 x2 x3 x4 x5 x6 x7 kx ih s_1 v_2 v_4 x11
def F12_seriesOf (σ : Mem) (x1 : Int32) (x2 : Int32) (x3 : Int32) (x4 : Int32) (x5 : Int32) (x6 : Int32) (x7 : Int32) : Option (Int64 × Mem) :=
  bd (F12_seriesOf_L9 x1 x2 x3 x4 x5 x6 x7 fuelK σ 0 0 1) fun r_5 s_6 => some (r_5, s_6)
set_option maxRecDepth 20000 in
theorem c12_seriesOf {l : Launch} {D : va_G} {ad : Nat → Nat → Nat → Nat} {cid : Nat → Nat → Nat → ClassId} (σ : Mem) (x1 : Int32) (x2 : Int32) (x3 : Int32) (x4 : Int32) (x5 : Int32) (x6 : Int32) (x7 : Int32) : AMF (XM l D ad cid) M12_seriesOf 5 eL [.ref (ad 12 0 0), .int x1, .int x2, .int x3, .int x4, .int x5, .int x6, .int x7] σ (F12_seriesOf σ x1 x2 x3 x4 x5 x6 x7) := by
  refine AM.ofW (by decide +kernel) (Nat.le_of_ble_eq_true rfl) (ls := [(0, .ref (ad 12 0 0)), (1, .int x1), (2, .int x2), (3, .int x3), (4, .int x4), (5, .int x5), (6, .int x6), (7, .int x7)]) rfl ?_
  refine aw_entry ?_
  unfold F12_seriesOf
  refine aw_lconst 0 dX12_seriesOf_0 (by decide) ?_
  refine aw_lstore (ls' := [(0, .ref (ad 12 0 0)), (1, .int x1), (2, .int x2), (3, .int x3), (4, .int x4), (5, .int x5), (6, .int x6), (7, .int x7), (8, .long 0)]) [1, 2, 3, 4, 5, 6, 7, 8, 0] dX12_seriesOf_1 (by decide) rfl ?_
  refine aw_iconst 0 dX12_seriesOf_3 (by decide) ?_
  refine aw_istore (ls' := [(0, .ref (ad 12 0 0)), (1, .int x1), (2, .int x2), (3, .int x3), (4, .int x4), (5, .int x5), (6, .int x6), (7, .int x7), (8, .long 0), (10, .int 0)]) [1, 2, 3, 4, 5, 6, 7, 8, 9, 0] dX12_seriesOf_4 (by decide) rfl ?_
  refine aw_iconst 1 dX12_seriesOf_6 (by decide) ?_
  refine aw_istore (ls' := [(0, .ref (ad 12 0 0)), (1, .int x1), (2, .int x2), (3, .int x3), (4, .int x4), (5, .int x5), (6, .int x6), (7, .int x7), (8, .long 0), (10, .int 0), (11, .int 1)]) [1, 2, 3, 4, 5, 6, 7, 8, 9, 10, 0] dX12_seriesOf_7 (by decide) rfl ?_
  refine aw_assocW ?_
  refine c12_seriesOf_L9 x1 x2 x3 x4 x5 x6 x7 (fun r_5 s_6 => ?_) fuelK σ 0 0 1
  refine aw_lload 0 dX12_seriesOf_89 rfl ?_
  exact aw_lreturn rfl dX12_seriesOf_91
def F12_series (σ : Mem) (x1 : Int32) (x2 : Int32) (x3 : Int32) (x4 : Int32) (x5 : Int32) (x6 : Int32) (x7 : Int32) : Option (Bool × Mem) :=
  bnd (sI σ 12 0 0 1 0) fun s_1 => bnd (sI s_1 12 0 0 0 0) fun s_2 => (F12_isShot s_2 x1 x2).bind fun v_3 => if v_3 = true then ((ald 3000 (gI s_2 12 0 5) (53 + x1)).bind fun v_4 => if (F12_isPuffing x3 v_4) = true then (if (F12_isAim x4 x5) = true then (if (F12_isIn (Int32.toInt64 x6) 1 30) = true then (if (F12_isIn (Int32.toInt64 x7) 1 30) = true then (bd (F12_seriesOf s_2 x1 x2 x3 x4 x5 x6 x7) fun v_11 s_12 => bd (F12_fraction s_12 v_11 18) fun v_13 s_14 => some (v_13, s_14)) else (bd (F12_no s_2 5) fun v_15 s_16 => some (v_15, s_16))) else (bd (F12_no s_2 5) fun v_9 s_10 => some (v_9, s_10))) else (bd (F12_no s_2 5) fun v_7 s_8 => some (v_7, s_8))) else (bd (F12_no s_2 5) fun v_5 s_6 => some (v_5, s_6))) else (bd (F12_no s_2 2) fun v_17 s_18 => some (v_17, s_18))
set_option maxRecDepth 20000 in
theorem c12_series {l : Launch} {D : va_G} {ad : Nat → Nat → Nat → Nat} {cid : Nat → Nat → Nat → ClassId} (σ : Mem) (x1 : Int32) (x2 : Int32) (x3 : Int32) (x4 : Int32) (x5 : Int32) (x6 : Int32) (x7 : Int32) : AMF (XM l D ad cid) M12_series 6 eB [.ref (ad 12 0 0), .int x1, .int x2, .int x3, .int x4, .int x5, .int x6, .int x7] σ (F12_series σ x1 x2 x3 x4 x5 x6 x7) := by
  refine AM.ofW (by decide +kernel) (Nat.le_of_ble_eq_true rfl) (ls := [(0, .ref (ad 12 0 0)), (1, .int x1), (2, .int x2), (3, .int x3), (4, .int x4), (5, .int x5), (6, .int x6), (7, .int x7)]) rfl ?_
  refine aw_entry ?_
  unfold F12_series
  refine aw_aload_n 0 dX12_series_0 rfl rfl ?_
  refine aw_iconst 0 dX12_series_1 (by decide) ?_
  refine aw_putI (fs_12_1 (by decide)) ci_12 (by decide) rfl rfl w_1459 dX12_series_2 ?_
  refine aw_bndM (fun s_1 => ?_)
  refine aw_aload_n 0 dX12_series_5 rfl rfl ?_
  refine aw_iconst 0 dX12_series_6 (by decide) ?_
  refine aw_putI (fs_12_0 (by decide)) ci_12 (by decide) rfl rfl w_1458 dX12_series_7 ?_
  refine aw_bndM (fun s_2 => ?_)
  refine aw_aload_n 0 dX12_series_10 rfl rfl ?_
  refine aw_iload_n 1 dX12_series_11 rfl rfl ?_
  refine aw_iload_n 2 dX12_series_12 rfl rfl ?_
  refine aw_callVO_B (c12_isShot s_2 x1 x2) (io_12 (by decide)) ci_12 (by decide) mk_12_isShot w_2044 w_115 w_2042 rfl rfl (Nat.le_of_ble_eq_true rfl) dX12_series_13 (fun v_3 => ?_)
  refine aw_bif_ne 25 dX12_series_16 (by decide) ?_ ?_
  · refine aw_iload_n 3 dX12_series_25 rfl rfl ?_
    refine aw_aload_n 0 dX12_series_26 rfl rfl ?_
    refine aw_getf (fg_12_20 (by decide)) ci_12 (by decide) w_1478 dX12_series_27 ?_
    refine aw_bipush 53 dX12_series_30 (by decide) ?_
    refine aw_iload_n 1 dX12_series_32 rfl rfl ?_
    refine aw_iadd dX12_series_33 ?_
    refine aw_iaload (ar_12_5 (by decide)) dX12_series_34 (fun v_4 => ?_)
    refine aw_callST_B (c12_isPuffing s_2 x3 v_4) (by decide) mk_12_isPuffing w_1963 w_1962 rfl rfl (Nat.le_of_ble_eq_true rfl) dX12_series_35 ?_
    refine aw_bif_eq 77 dX12_series_38 (by decide) ?_ ?_
    · refine aw_aload_n 0 dX12_series_77 rfl rfl ?_
      refine aw_iconst 5 dX12_series_78 (by decide) ?_
      refine aw_callVW_B (c12_no s_2 5) (io_12 (by decide)) ci_12 (by decide) mk_12_no w_1660 w_49 w_1658 rfl rfl (Nat.le_of_ble_eq_true rfl) dX12_series_79 (fun v_5 s_6 => ?_)
      exact aw_zreturn (b := v_5) rfl rfl dX12_series_82
    · refine aw_iload 4 dX12_series_41 rfl ?_
      refine aw_iload 5 dX12_series_43 rfl ?_
      refine aw_callST_B (c12_isAim s_2 x4 x5) (by decide) mk_12_isAim w_1996 w_1995 rfl rfl (Nat.le_of_ble_eq_true rfl) dX12_series_45 ?_
      refine aw_bif_eq 77 dX12_series_48 (by decide) ?_ ?_
      · refine aw_aload_n 0 dX12_series_77 rfl rfl ?_
        refine aw_iconst 5 dX12_series_78 (by decide) ?_
        refine aw_callVW_B (c12_no s_2 5) (io_12 (by decide)) ci_12 (by decide) mk_12_no w_1660 w_49 w_1658 rfl rfl (Nat.le_of_ble_eq_true rfl) dX12_series_79 (fun v_7 s_8 => ?_)
        exact aw_zreturn (b := v_7) rfl rfl dX12_series_82
      · refine aw_iload 6 dX12_series_51 rfl ?_
        refine aw_i2l dX12_series_53 ?_
        refine aw_lconst 1 dX12_series_54 (by decide) ?_
        refine aw_ldc2 w_2091 dX12_series_55 ?_
        refine aw_callST_B (c12_isIn s_2 (Int32.toInt64 x6) 1 30) (by decide) mk_12_isIn w_1754 w_1753 rfl rfl (Nat.le_of_ble_eq_true rfl) dX12_series_58 ?_
        refine aw_bif_eq 77 dX12_series_61 (by decide) ?_ ?_
        · refine aw_aload_n 0 dX12_series_77 rfl rfl ?_
          refine aw_iconst 5 dX12_series_78 (by decide) ?_
          refine aw_callVW_B (c12_no s_2 5) (io_12 (by decide)) ci_12 (by decide) mk_12_no w_1660 w_49 w_1658 rfl rfl (Nat.le_of_ble_eq_true rfl) dX12_series_79 (fun v_9 s_10 => ?_)
          exact aw_zreturn (b := v_9) rfl rfl dX12_series_82
        · refine aw_iload 7 dX12_series_64 rfl ?_
          refine aw_i2l dX12_series_66 ?_
          refine aw_lconst 1 dX12_series_67 (by decide) ?_
          refine aw_ldc2 w_2091 dX12_series_68 ?_
          refine aw_callST_B (c12_isIn s_2 (Int32.toInt64 x7) 1 30) (by decide) mk_12_isIn w_1754 w_1753 rfl rfl (Nat.le_of_ble_eq_true rfl) dX12_series_71 ?_
          refine aw_bif_ne 83 dX12_series_74 (by decide) ?_ ?_
          · refine aw_aload_n 0 dX12_series_83 rfl rfl ?_
            refine aw_aload_n 0 dX12_series_84 rfl rfl ?_
            refine aw_iload_n 1 dX12_series_85 rfl rfl ?_
            refine aw_iload_n 2 dX12_series_86 rfl rfl ?_
            refine aw_iload_n 3 dX12_series_87 rfl rfl ?_
            refine aw_iload 4 dX12_series_88 rfl ?_
            refine aw_iload 5 dX12_series_90 rfl ?_
            refine aw_iload 6 dX12_series_92 rfl ?_
            refine aw_iload 7 dX12_series_94 rfl ?_
            refine aw_callVW_L (c12_seriesOf s_2 x1 x2 x3 x4 x5 x6 x7) (io_12 (by decide)) ci_12 (by decide) mk_12_seriesOf w_2094 w_120 w_2092 rfl rfl (Nat.le_of_ble_eq_true rfl) dX12_series_96 (fun v_11 s_12 => ?_)
            refine aw_ldc2 w_1837 dX12_series_99 ?_
            refine aw_callVW_B (c12_fraction s_12 v_11 18) (io_12 (by decide)) ci_12 (by decide) mk_12_fraction w_2052 w_117 w_2050 rfl rfl (Nat.le_of_ble_eq_true rfl) dX12_series_102 (fun v_13 s_14 => ?_)
            exact aw_zreturn (b := v_13) rfl rfl dX12_series_105
          · refine aw_aload_n 0 dX12_series_77 rfl rfl ?_
            refine aw_iconst 5 dX12_series_78 (by decide) ?_
            refine aw_callVW_B (c12_no s_2 5) (io_12 (by decide)) ci_12 (by decide) mk_12_no w_1660 w_49 w_1658 rfl rfl (Nat.le_of_ble_eq_true rfl) dX12_series_79 (fun v_15 s_16 => ?_)
            exact aw_zreturn (b := v_15) rfl rfl dX12_series_82
  · refine aw_aload_n 0 dX12_series_19 rfl rfl ?_
    refine aw_iconst 2 dX12_series_20 (by decide) ?_
    refine aw_callVW_B (c12_no s_2 2) (io_12 (by decide)) ci_12 (by decide) mk_12_no w_1660 w_49 w_1658 rfl rfl (Nat.le_of_ble_eq_true rfl) dX12_series_21 (fun v_17 s_18 => ?_)
    exact aw_zreturn (b := v_17) rfl rfl dX12_series_24
def F12_wipeEvery_L82 (x1 : Int32) (x2 : Int32) (x3 : Int32) (x4 : Int32) (x5 : Int32) : Nat → Mem → Int32 → Int64 → Int32 → Option ((Int32) × Mem)
  | 0 => fun _ _ _ _ => none
  | n + 1 => fun σ x6 y7 x9 =>
    if 10 ≤ x9 then (some (x6, σ)) else (bd (F12_seriesOf σ x1 x2 x3 0 0 x4 x9) fun v_9 s_10 => if x9 = 0 then none else bnd (((16 : Int64) * v_9) - (((18 : Int64) * (Int32.toInt64 x5)) * (Int32.toInt64 (x4 / x9)))) fun v_11 => if x6 ≤ 0 then ((F12_wipeEvery_L82 x1 x2 x3 x4 x5 n) s_10 x9 v_11 (x9 + 1)) else (if y7 < v_11 then ((F12_wipeEvery_L82 x1 x2 x3 x4 x5 n) s_10 x9 v_11 (x9 + 1)) else ((F12_wipeEvery_L82 x1 x2 x3 x4 x5 n) s_10 x6 y7 (x9 + 1))))
set_option maxRecDepth 20000 in
theorem c12_wipeEvery_L82 {l : Launch} {D : va_G} {ad : Nat → Nat → Nat → Nat} {cid : Nat → Nat → Nat → ClassId} {α : Type} {emb : α → Option Value} (x1 : Int32) (x2 : Int32) (x3 : Int32) (x4 : Int32) (x5 : Int32) {G : Int32 → Mem → Option (α × Mem)} (kx : ∀ r σ, AW (XM l D ad cid) M12_wipeEvery 6 emb [(6, .int r)] 153 [] σ (G r σ)) : ∀ (n : Nat) (σ : Mem) (x6 : Int32) (y7 : Int64) (x9 : Int32), AW (XM l D ad cid) M12_wipeEvery 6 emb [(0, .ref (ad 12 0 0)), (1, .int x1), (2, .int x2), (3, .int x3), (4, .int x4), (5, .int x5), (6, .int x6), (7, .long y7), (9, .int x9)] 82 [] σ (bd (F12_wipeEvery_L82 x1 x2 x3 x4 x5 n σ x6 y7 x9) G) := by
  intro n
  induction n with
  | zero => intros; exact aw_none
  | succ n ih =>
    intro σ x6 y7 x9
    refine aw_bdB ?_
    rw [F12_wipeEvery_L82.eq_2]
    refine aw_iload 8 dX12_wipeEvery_82 rfl ?_
    refine aw_bipush 10 dX12_wipeEvery_84 (by decide) ?_
    refine aw_icmp_ge 153 dX12_wipeEvery_86 (by decide) ?_ ?_
    · refine aw_ls (ls' := [(6, .int x6)]) [6] rfl ?_
      exact kx x6 σ
    · refine aw_ldc2 w_2101 dX12_wipeEvery_89 ?_
      refine aw_aload_n 0 dX12_wipeEvery_92 rfl rfl ?_
      refine aw_iload_n 1 dX12_wipeEvery_93 rfl rfl ?_
      refine aw_iload_n 2 dX12_wipeEvery_94 rfl rfl ?_
      refine aw_iload_n 3 dX12_wipeEvery_95 rfl rfl ?_
      refine aw_iconst 0 dX12_wipeEvery_96 (by decide) ?_
      refine aw_iconst 0 dX12_wipeEvery_97 (by decide) ?_
      refine aw_iload 4 dX12_wipeEvery_98 rfl ?_
      refine aw_iload 8 dX12_wipeEvery_100 rfl ?_
      refine aw_callVW_L (c12_seriesOf σ x1 x2 x3 0 0 x4 x9) (io_12 (by decide)) ci_12 (by decide) mk_12_seriesOf w_2094 w_120 w_2092 rfl rfl (Nat.le_of_ble_eq_true rfl) dX12_wipeEvery_102 (fun v_9 s_10 => ?_)
      refine aw_lmul dX12_wipeEvery_105 ?_
      refine aw_ldc2 w_1837 dX12_wipeEvery_106 ?_
      refine aw_iload 5 dX12_wipeEvery_109 rfl ?_
      refine aw_i2l dX12_wipeEvery_111 ?_
      refine aw_lmul dX12_wipeEvery_112 ?_
      refine aw_iload 4 dX12_wipeEvery_113 rfl ?_
      refine aw_iload 8 dX12_wipeEvery_115 rfl ?_
      refine aw_idiv dX12_wipeEvery_117 ?_
      refine aw_i2l dX12_wipeEvery_118 ?_
      refine aw_lmul dX12_wipeEvery_119 ?_
      refine aw_lsub dX12_wipeEvery_120 ?_
      refine aw_bnd_long (fun v_11 => ?_)
      refine aw_lstore (ls' := [(0, .ref (ad 12 0 0)), (1, .int x1), (2, .int x2), (3, .int x3), (4, .int x4), (5, .int x5), (6, .int x6), (7, .long y7), (9, .int x9), (10, .long v_11)]) [1, 2, 3, 4, 5, 6, 7, 8, 9, 0] dX12_wipeEvery_121 (by decide) rfl ?_
      refine aw_iload 6 dX12_wipeEvery_123 rfl ?_
      refine aw_if_le 139 dX12_wipeEvery_125 (by decide) ?_ ?_
      · refine aw_iload 8 dX12_wipeEvery_139 rfl ?_
        refine aw_istore (ls' := [(0, .ref (ad 12 0 0)), (1, .int x1), (2, .int x2), (3, .int x3), (4, .int x4), (5, .int x5), (6, .int x9), (9, .int x9), (10, .long v_11)]) [1, 2, 3, 4, 5, 6, 0, 8, 9] dX12_wipeEvery_141 (by decide) rfl ?_
        refine aw_lload 8 dX12_wipeEvery_143 rfl ?_
        refine aw_lstore (ls' := [(0, .ref (ad 12 0 0)), (1, .int x1), (2, .int x2), (3, .int x3), (4, .int x4), (5, .int x5), (6, .int x9), (7, .long v_11), (9, .int x9)]) [1, 2, 3, 4, 5, 6, 7, 0, 8] dX12_wipeEvery_145 (by decide) rfl ?_
        refine aw_iinc (ls' := [(0, .ref (ad 12 0 0)), (1, .int x1), (2, .int x2), (3, .int x3), (4, .int x4), (5, .int x5), (6, .int x9), (7, .long v_11), (9, .int (x9 + 1))]) (x9 + 1) 8 [1, 2, 3, 4, 5, 6, 7, 8, 0] dX12_wipeEvery_147 rfl (by rfl) (by decide) rfl ?_
        refine aw_goto 82 dX12_wipeEvery_150 (by decide) ?_
        exact ih s_10 x9 v_11 (x9 + 1)
      · refine aw_lload 9 dX12_wipeEvery_128 rfl ?_
        refine aw_lload 7 dX12_wipeEvery_130 rfl ?_
        refine aw_lcmp dX12_wipeEvery_132 ?_
        refine aw_lif_gt 139 dX12_wipeEvery_133 (by decide) ?_ ?_
        · refine aw_iload 8 dX12_wipeEvery_139 rfl ?_
          refine aw_istore (ls' := [(0, .ref (ad 12 0 0)), (1, .int x1), (2, .int x2), (3, .int x3), (4, .int x4), (5, .int x5), (6, .int x9), (9, .int x9), (10, .long v_11)]) [1, 2, 3, 4, 5, 6, 0, 8, 9] dX12_wipeEvery_141 (by decide) rfl ?_
          refine aw_lload 8 dX12_wipeEvery_143 rfl ?_
          refine aw_lstore (ls' := [(0, .ref (ad 12 0 0)), (1, .int x1), (2, .int x2), (3, .int x3), (4, .int x4), (5, .int x5), (6, .int x9), (7, .long v_11), (9, .int x9)]) [1, 2, 3, 4, 5, 6, 7, 0, 8] dX12_wipeEvery_145 (by decide) rfl ?_
          refine aw_iinc (ls' := [(0, .ref (ad 12 0 0)), (1, .int x1), (2, .int x2), (3, .int x3), (4, .int x4), (5, .int x5), (6, .int x9), (7, .long v_11), (9, .int (x9 + 1))]) (x9 + 1) 8 [1, 2, 3, 4, 5, 6, 7, 8, 0] dX12_wipeEvery_147 rfl (by rfl) (by decide) rfl ?_
          refine aw_goto 82 dX12_wipeEvery_150 (by decide) ?_
          exact ih s_10 x9 v_11 (x9 + 1)
        · refine aw_goto 147 dX12_wipeEvery_136 (by decide) ?_
          refine aw_iinc (ls' := [(0, .ref (ad 12 0 0)), (1, .int x1), (2, .int x2), (3, .int x3), (4, .int x4), (5, .int x5), (6, .int x6), (7, .long y7), (9, .int (x9 + 1))]) (x9 + 1) 8 [1, 2, 3, 4, 5, 6, 7, 8, 0] dX12_wipeEvery_147 rfl (by rfl) (by decide) rfl ?_
          refine aw_goto 82 dX12_wipeEvery_150 (by decide) ?_
          exact ih s_10 x6 y7 (x9 + 1)
def F12_wipeEvery (σ : Mem) (x1 : Int32) (x2 : Int32) (x3 : Int32) (x4 : Int32) (x5 : Int32) : Option (Int32 × Mem) :=
  bnd (sI σ 12 0 0 1 0) fun s_1 => bnd (sI s_1 12 0 0 0 0) fun s_2 => (F12_isShot s_2 x1 x2).bind fun v_3 => if v_3 = true then ((ald 3000 (gI s_2 12 0 5) (53 + x1)).bind fun v_4 => if (F12_isPuffing x3 v_4) = true then (if (F12_isIn (Int32.toInt64 x4) 1 30) = true then (if (F12_isIn (Int32.toInt64 x5) 0 99) = true then (bd (F12_wipeEvery_L82 x1 x2 x3 x4 x5 fuelK s_2 0 0 1) fun r_12 s_13 => some (r_12, s_13)) else (bd (F12_refuse s_2 5) fun v_14 s_15 => some (v_14, s_15))) else (bd (F12_refuse s_2 5) fun v_7 s_8 => some (v_7, s_8))) else (bd (F12_refuse s_2 5) fun v_5 s_6 => some (v_5, s_6))) else (bd (F12_refuse s_2 2) fun v_16 s_17 => some (v_16, s_17))
set_option maxRecDepth 20000 in
theorem c12_wipeEvery {l : Launch} {D : va_G} {ad : Nat → Nat → Nat → Nat} {cid : Nat → Nat → Nat → ClassId} (σ : Mem) (x1 : Int32) (x2 : Int32) (x3 : Int32) (x4 : Int32) (x5 : Int32) : AMF (XM l D ad cid) M12_wipeEvery 6 eI [.ref (ad 12 0 0), .int x1, .int x2, .int x3, .int x4, .int x5] σ (F12_wipeEvery σ x1 x2 x3 x4 x5) := by
  refine AM.ofW (by decide +kernel) (Nat.le_of_ble_eq_true rfl) (ls := [(0, .ref (ad 12 0 0)), (1, .int x1), (2, .int x2), (3, .int x3), (4, .int x4), (5, .int x5)]) rfl ?_
  refine aw_entry ?_
  unfold F12_wipeEvery
  refine aw_aload_n 0 dX12_wipeEvery_0 rfl rfl ?_
  refine aw_iconst 0 dX12_wipeEvery_1 (by decide) ?_
  refine aw_putI (fs_12_1 (by decide)) ci_12 (by decide) rfl rfl w_1459 dX12_wipeEvery_2 ?_
  refine aw_bndM (fun s_1 => ?_)
  refine aw_aload_n 0 dX12_wipeEvery_5 rfl rfl ?_
  refine aw_iconst 0 dX12_wipeEvery_6 (by decide) ?_
  refine aw_putI (fs_12_0 (by decide)) ci_12 (by decide) rfl rfl w_1458 dX12_wipeEvery_7 ?_
  refine aw_bndM (fun s_2 => ?_)
  refine aw_aload_n 0 dX12_wipeEvery_10 rfl rfl ?_
  refine aw_iload_n 1 dX12_wipeEvery_11 rfl rfl ?_
  refine aw_iload_n 2 dX12_wipeEvery_12 rfl rfl ?_
  refine aw_callVO_B (c12_isShot s_2 x1 x2) (io_12 (by decide)) ci_12 (by decide) mk_12_isShot w_2044 w_115 w_2042 rfl rfl (Nat.le_of_ble_eq_true rfl) dX12_wipeEvery_13 (fun v_3 => ?_)
  refine aw_bif_ne 25 dX12_wipeEvery_16 (by decide) ?_ ?_
  · refine aw_iload_n 3 dX12_wipeEvery_25 rfl rfl ?_
    refine aw_aload_n 0 dX12_wipeEvery_26 rfl rfl ?_
    refine aw_getf (fg_12_20 (by decide)) ci_12 (by decide) w_1478 dX12_wipeEvery_27 ?_
    refine aw_bipush 53 dX12_wipeEvery_30 (by decide) ?_
    refine aw_iload_n 1 dX12_wipeEvery_32 rfl rfl ?_
    refine aw_iadd dX12_wipeEvery_33 ?_
    refine aw_iaload (ar_12_5 (by decide)) dX12_wipeEvery_34 (fun v_4 => ?_)
    refine aw_callST_B (c12_isPuffing s_2 x3 v_4) (by decide) mk_12_isPuffing w_1963 w_1962 rfl rfl (Nat.le_of_ble_eq_true rfl) dX12_wipeEvery_35 ?_
    refine aw_bif_eq 67 dX12_wipeEvery_38 (by decide) ?_ ?_
    · refine aw_aload_n 0 dX12_wipeEvery_67 rfl rfl ?_
      refine aw_iconst 5 dX12_wipeEvery_68 (by decide) ?_
      refine aw_callVW_I (c12_refuse s_2 5) (io_12 (by decide)) ci_12 (by decide) mk_12_refuse w_1921 w_101 w_1919 rfl rfl (Nat.le_of_ble_eq_true rfl) dX12_wipeEvery_69 (fun v_5 s_6 => ?_)
      exact aw_ireturn rfl dX12_wipeEvery_72
    · refine aw_iload 4 dX12_wipeEvery_41 rfl ?_
      refine aw_i2l dX12_wipeEvery_43 ?_
      refine aw_lconst 1 dX12_wipeEvery_44 (by decide) ?_
      refine aw_ldc2 w_2091 dX12_wipeEvery_45 ?_
      refine aw_callST_B (c12_isIn s_2 (Int32.toInt64 x4) 1 30) (by decide) mk_12_isIn w_1754 w_1753 rfl rfl (Nat.le_of_ble_eq_true rfl) dX12_wipeEvery_48 ?_
      refine aw_bif_eq 67 dX12_wipeEvery_51 (by decide) ?_ ?_
      · refine aw_aload_n 0 dX12_wipeEvery_67 rfl rfl ?_
        refine aw_iconst 5 dX12_wipeEvery_68 (by decide) ?_
        refine aw_callVW_I (c12_refuse s_2 5) (io_12 (by decide)) ci_12 (by decide) mk_12_refuse w_1921 w_101 w_1919 rfl rfl (Nat.le_of_ble_eq_true rfl) dX12_wipeEvery_69 (fun v_7 s_8 => ?_)
        exact aw_ireturn rfl dX12_wipeEvery_72
      · refine aw_iload 5 dX12_wipeEvery_54 rfl ?_
        refine aw_i2l dX12_wipeEvery_56 ?_
        refine aw_lconst 0 dX12_wipeEvery_57 (by decide) ?_
        refine aw_ldc2 w_2100 dX12_wipeEvery_58 ?_
        refine aw_callST_B (c12_isIn s_2 (Int32.toInt64 x5) 0 99) (by decide) mk_12_isIn w_1754 w_1753 rfl rfl (Nat.le_of_ble_eq_true rfl) dX12_wipeEvery_61 ?_
        refine aw_bif_ne 73 dX12_wipeEvery_64 (by decide) ?_ ?_
        · refine aw_iconst 0 dX12_wipeEvery_73 (by decide) ?_
          refine aw_istore (ls' := [(0, .ref (ad 12 0 0)), (1, .int x1), (2, .int x2), (3, .int x3), (4, .int x4), (5, .int x5), (6, .int 0)]) [1, 2, 3, 4, 5, 6, 0] dX12_wipeEvery_74 (by decide) rfl ?_
          refine aw_lconst 0 dX12_wipeEvery_76 (by decide) ?_
          refine aw_lstore (ls' := [(0, .ref (ad 12 0 0)), (1, .int x1), (2, .int x2), (3, .int x3), (4, .int x4), (5, .int x5), (6, .int 0), (7, .long 0)]) [1, 2, 3, 4, 5, 6, 7, 0] dX12_wipeEvery_77 (by decide) rfl ?_
          refine aw_iconst 1 dX12_wipeEvery_79 (by decide) ?_
          refine aw_istore (ls' := [(0, .ref (ad 12 0 0)), (1, .int x1), (2, .int x2), (3, .int x3), (4, .int x4), (5, .int x5), (6, .int 0), (7, .long 0), (9, .int 1)]) [1, 2, 3, 4, 5, 6, 7, 8, 0] dX12_wipeEvery_80 (by decide) rfl ?_
          refine aw_assocW ?_
          refine c12_wipeEvery_L82 x1 x2 x3 x4 x5 (fun r_12 s_13 => ?_) fuelK s_2 0 0 1
          refine aw_iload 0 dX12_wipeEvery_153 rfl ?_
          exact aw_ireturn rfl dX12_wipeEvery_155
        · refine aw_aload_n 0 dX12_wipeEvery_67 rfl rfl ?_
          refine aw_iconst 5 dX12_wipeEvery_68 (by decide) ?_
          refine aw_callVW_I (c12_refuse s_2 5) (io_12 (by decide)) ci_12 (by decide) mk_12_refuse w_1921 w_101 w_1919 rfl rfl (Nat.le_of_ble_eq_true rfl) dX12_wipeEvery_69 (fun v_14 s_15 => ?_)
          exact aw_ireturn rfl dX12_wipeEvery_72
  · refine aw_aload_n 0 dX12_wipeEvery_19 rfl rfl ?_
    refine aw_iconst 2 dX12_wipeEvery_20 (by decide) ?_
    refine aw_callVW_I (c12_refuse s_2 2) (io_12 (by decide)) ci_12 (by decide) mk_12_refuse w_1921 w_101 w_1919 rfl rfl (Nat.le_of_ble_eq_true rfl) dX12_wipeEvery_21 (fun v_16 s_17 => ?_)
    exact aw_ireturn rfl dX12_wipeEvery_24
def F12_sumUp_L22 (x3 : Int32) (a4 : Nat) (b4 : Nat) (c4 : Nat) (n4 : Nat) : Nat → Mem → Int32 → Option ((Unit) × Mem)
  | 0 => fun _ _ => none
  | n + 1 => fun σ x5 =>
    if 101 ≤ x5 then (some ((), σ)) else (if x5 = 0 then (chk n4 x5 <| bnd (sL σ a4 b4 c4 (Int32.toNatClampNeg x5) 1) fun s_4 => (F12_sumUp_L22 x3 a4 b4 c4 n4 n) s_4 (x5 + 1)) else (chk n4 x5 <| bnd (sL σ a4 b4 c4 (Int32.toNatClampNeg x5) 0) fun s_3 => (F12_sumUp_L22 x3 a4 b4 c4 n4 n) s_3 (x5 + 1)))
set_option maxRecDepth 20000 in
theorem c12_sumUp_L22 {l : Launch} {D : va_G} {ad : Nat → Nat → Nat → Nat} {cid : Nat → Nat → Nat → ClassId} {α : Type} {emb : α → Option Value} (x3 : Int32) (a4 : Nat) (b4 : Nat) (c4 : Nat) (n4 : Nat) (hn4 : IsL (XM l D ad cid) a4 b4 c4 n4) {G : Unit → Mem → Option (α × Mem)} (kx : ∀ r σ, AW (XM l D ad cid) M12_sumUp 5 emb [(0, .ref (ad 12 0 0)), (3, .int x3), (4, .ref (ad a4 b4 c4))] 50 [] σ (G r σ)) : ∀ (n : Nat) (σ : Mem) (x5 : Int32), AW (XM l D ad cid) M12_sumUp 5 emb [(0, .ref (ad 12 0 0)), (3, .int x3), (4, .ref (ad a4 b4 c4)), (5, .int x5)] 22 [] σ (bd (F12_sumUp_L22 x3 a4 b4 c4 n4 n σ x5) G) := by
  intro n
  induction n with
  | zero => intros; exact aw_none
  | succ n ih =>
    intro σ x5
    refine aw_bdB ?_
    rw [F12_sumUp_L22.eq_2]
    refine aw_iload 3 dX12_sumUp_22 rfl ?_
    refine aw_bipush 101 dX12_sumUp_24 (by decide) ?_
    refine aw_icmp_ge 50 dX12_sumUp_26 (by decide) ?_ ?_
    · refine aw_ls (ls' := [(0, .ref (ad 12 0 0)), (3, .int x3), (4, .ref (ad a4 b4 c4))]) [0, 1, 2] rfl ?_
      exact kx () σ
    · refine aw_aload 2 dX12_sumUp_29 rfl ?_
      refine aw_iload 3 dX12_sumUp_31 rfl ?_
      refine aw_iload 3 dX12_sumUp_33 rfl ?_
      refine aw_if_ne 42 dX12_sumUp_35 (by decide) ?_ ?_
      · refine aw_lconst 0 dX12_sumUp_42 (by decide) ?_
        refine aw_lastore hn4 dX12_sumUp_43 ?_
        refine aw_bndM (fun s_3 => ?_)
        refine aw_iinc (ls' := [(0, .ref (ad 12 0 0)), (3, .int x3), (4, .ref (ad a4 b4 c4)), (5, .int (x5 + 1))]) (x5 + 1) 3 [1, 2, 3, 0] dX12_sumUp_44 rfl (by rfl) (by decide) rfl ?_
        refine aw_goto 22 dX12_sumUp_47 (by decide) ?_
        exact ih s_3 (x5 + 1)
      · refine aw_lconst 1 dX12_sumUp_38 (by decide) ?_
        refine aw_goto 43 dX12_sumUp_39 (by decide) ?_
        refine aw_lastore hn4 dX12_sumUp_43 ?_
        refine aw_bndM (fun s_4 => ?_)
        refine aw_iinc (ls' := [(0, .ref (ad 12 0 0)), (3, .int x3), (4, .ref (ad a4 b4 c4)), (5, .int (x5 + 1))]) (x5 + 1) 3 [1, 2, 3, 0] dX12_sumUp_44 rfl (by rfl) (by decide) rfl ?_
        refine aw_goto 22 dX12_sumUp_47 (by decide) ?_
        exact ih s_4 (x5 + 1)
def F12_sumUp_L62 (x3 : Int32) (a4 : Nat) (b4 : Nat) (c4 : Nat) (n4 : Nat) (x5 : Int32) : Nat → Mem → Int32 → Option ((Unit) × Mem)
  | 0 => fun _ _ => none
  | n + 1 => fun σ x6 =>
    if 101 ≤ x6 then (some ((), σ)) else (chk 101 x6 <| bnd (sL σ 12 0 11 (Int32.toNatClampNeg x6) 0) fun s_7 => (F12_sumUp_L62 x3 a4 b4 c4 n4 x5 n) s_7 (x6 + 1))
set_option maxRecDepth 20000 in
theorem c12_sumUp_L62 {l : Launch} {D : va_G} {ad : Nat → Nat → Nat → Nat} {cid : Nat → Nat → Nat → ClassId} {α : Type} {emb : α → Option Value} (x3 : Int32) (a4 : Nat) (b4 : Nat) (c4 : Nat) (n4 : Nat) (hn4 : IsL (XM l D ad cid) a4 b4 c4 n4) (x5 : Int32) {G : Unit → Mem → Option (α × Mem)} (kx : ∀ r σ, AW (XM l D ad cid) M12_sumUp 5 emb [(0, .ref (ad 12 0 0)), (3, .int x3), (4, .ref (ad a4 b4 c4)), (5, .int x5)] 83 [] σ (G r σ)) : ∀ (n : Nat) (σ : Mem) (x6 : Int32), AW (XM l D ad cid) M12_sumUp 5 emb [(0, .ref (ad 12 0 0)), (3, .int x3), (4, .ref (ad a4 b4 c4)), (5, .int x5), (6, .int x6)] 62 [] σ (bd (F12_sumUp_L62 x3 a4 b4 c4 n4 x5 n σ x6) G) := by
  intro n
  induction n with
  | zero => intros; exact aw_none
  | succ n ih =>
    intro σ x6
    refine aw_bdB ?_
    rw [F12_sumUp_L62.eq_2]
    refine aw_iload 4 dX12_sumUp_62 rfl ?_
    refine aw_bipush 101 dX12_sumUp_64 (by decide) ?_
    refine aw_icmp_ge 83 dX12_sumUp_66 (by decide) ?_ ?_
    · refine aw_ls (ls' := [(0, .ref (ad 12 0 0)), (3, .int x3), (4, .ref (ad a4 b4 c4)), (5, .int x5)]) [0, 1, 2, 3] rfl ?_
      exact kx () σ
    · refine aw_aload_n 0 dX12_sumUp_69 rfl rfl ?_
      refine aw_getf (fg_12_39 (by decide)) ci_12 (by decide) w_1497 dX12_sumUp_70 ?_
      refine aw_iload 4 dX12_sumUp_73 rfl ?_
      refine aw_lconst 0 dX12_sumUp_75 (by decide) ?_
      refine aw_lastore (ar_12_11 (by decide)) dX12_sumUp_76 ?_
      refine aw_bndM (fun s_7 => ?_)
      refine aw_iinc (ls' := [(0, .ref (ad 12 0 0)), (3, .int x3), (4, .ref (ad a4 b4 c4)), (5, .int x5), (6, .int (x6 + 1))]) (x6 + 1) 4 [1, 2, 3, 4, 0] dX12_sumUp_77 rfl (by rfl) (by decide) rfl ?_
      refine aw_goto 62 dX12_sumUp_80 (by decide) ?_
      exact ih s_7 (x6 + 1)
def F12_sumUp_L99 (x3 : Int32) (a4 : Nat) (b4 : Nat) (c4 : Nat) (n4 : Nat) (x5 : Int32) (x6 : Int32) : Nat → Mem → Int32 → Option ((Unit) × Mem)
  | 0 => fun _ _ => none
  | n + 1 => fun σ x7 =>
    if 21 ≤ x7 then (some ((), σ)) else ((ald 101 (gL σ 12 0 11) (x6 + x7)).bind fun v_10 => (ald n4 (gL σ a4 b4 c4) x6).bind fun v_11 => (ald 21 (gI σ 12 0 8) x7).bind fun v_12 => chk 101 (x6 + x7) <| bnd (sL σ 12 0 11 (Int32.toNatClampNeg (x6 + x7)) (v_10 + (v_11 * (Int32.toInt64 v_12)))) fun s_13 => (F12_sumUp_L99 x3 a4 b4 c4 n4 x5 x6 n) s_13 (x7 + 1))
set_option maxRecDepth 20000 in
theorem c12_sumUp_L99 {l : Launch} {D : va_G} {ad : Nat → Nat → Nat → Nat} {cid : Nat → Nat → Nat → ClassId} {α : Type} {emb : α → Option Value} (x3 : Int32) (a4 : Nat) (b4 : Nat) (c4 : Nat) (n4 : Nat) (hn4 : IsL (XM l D ad cid) a4 b4 c4 n4) (x5 : Int32) (x6 : Int32) {G : Unit → Mem → Option (α × Mem)} (kx : ∀ r σ, AW (XM l D ad cid) M12_sumUp 5 emb [(0, .ref (ad 12 0 0)), (3, .int x3), (4, .ref (ad a4 b4 c4)), (5, .int x5), (6, .int x6)] 139 [] σ (G r σ)) : ∀ (n : Nat) (σ : Mem) (x7 : Int32), AW (XM l D ad cid) M12_sumUp 5 emb [(0, .ref (ad 12 0 0)), (3, .int x3), (4, .ref (ad a4 b4 c4)), (5, .int x5), (6, .int x6), (7, .int x7)] 99 [] σ (bd (F12_sumUp_L99 x3 a4 b4 c4 n4 x5 x6 n σ x7) G) := by
  intro n
  induction n with
  | zero => intros; exact aw_none
  | succ n ih =>
    intro σ x7
    refine aw_bdB ?_
    rw [F12_sumUp_L99.eq_2]
    refine aw_iload 5 dX12_sumUp_99 rfl ?_
    refine aw_bipush 21 dX12_sumUp_101 (by decide) ?_
    refine aw_icmp_ge 139 dX12_sumUp_103 (by decide) ?_ ?_
    · refine aw_ls (ls' := [(0, .ref (ad 12 0 0)), (3, .int x3), (4, .ref (ad a4 b4 c4)), (5, .int x5), (6, .int x6)]) [0, 1, 2, 3, 4] rfl ?_
      exact kx () σ
    · refine aw_aload_n 0 dX12_sumUp_106 rfl rfl ?_
      refine aw_getf (fg_12_39 (by decide)) ci_12 (by decide) w_1497 dX12_sumUp_107 ?_
      refine aw_iload 4 dX12_sumUp_110 rfl ?_
      refine aw_iload 5 dX12_sumUp_112 rfl ?_
      refine aw_iadd dX12_sumUp_114 ?_
      refine aw_dup2_11 dX12_sumUp_115 rfl rfl ?_
      refine aw_laload (ar_12_11 (by decide)) dX12_sumUp_116 (fun v_10 => ?_)
      refine aw_aload 2 dX12_sumUp_117 rfl ?_
      refine aw_iload 4 dX12_sumUp_119 rfl ?_
      refine aw_laload hn4 dX12_sumUp_121 (fun v_11 => ?_)
      refine aw_aload_n 0 dX12_sumUp_122 rfl rfl ?_
      refine aw_getf (fg_12_32 (by decide)) ci_12 (by decide) w_1490 dX12_sumUp_123 ?_
      refine aw_iload 5 dX12_sumUp_126 rfl ?_
      refine aw_iaload (ar_12_8 (by decide)) dX12_sumUp_128 (fun v_12 => ?_)
      refine aw_i2l dX12_sumUp_129 ?_
      refine aw_lmul dX12_sumUp_130 ?_
      refine aw_ladd dX12_sumUp_131 ?_
      refine aw_lastore (ar_12_11 (by decide)) dX12_sumUp_132 ?_
      refine aw_bndM (fun s_13 => ?_)
      refine aw_iinc (ls' := [(0, .ref (ad 12 0 0)), (3, .int x3), (4, .ref (ad a4 b4 c4)), (5, .int x5), (6, .int x6), (7, .int (x7 + 1))]) (x7 + 1) 5 [1, 2, 3, 4, 5, 0] dX12_sumUp_133 rfl (by rfl) (by decide) rfl ?_
      refine aw_goto 99 dX12_sumUp_136 (by decide) ?_
      exact ih s_13 (x7 + 1)
def F12_sumUp_L86 (x3 : Int32) (a4 : Nat) (b4 : Nat) (c4 : Nat) (n4 : Nat) (x5 : Int32) : Nat → Mem → Int32 → Option ((Unit) × Mem)
  | 0 => fun _ _ => none
  | n + 1 => fun σ x6 =>
    if (20 * x5) < x6 then (some ((), σ)) else (bd (F12_sumUp_L99 x3 a4 b4 c4 n4 x5 x6 fuelK σ 0) fun r_14 s_15 => (F12_sumUp_L86 x3 a4 b4 c4 n4 x5 n) s_15 (x6 + 1))
set_option maxRecDepth 20000 in
theorem c12_sumUp_L86 {l : Launch} {D : va_G} {ad : Nat → Nat → Nat → Nat} {cid : Nat → Nat → Nat → ClassId} {α : Type} {emb : α → Option Value} (x3 : Int32) (a4 : Nat) (b4 : Nat) (c4 : Nat) (n4 : Nat) (hn4 : IsL (XM l D ad cid) a4 b4 c4 n4) (x5 : Int32) {G : Unit → Mem → Option (α × Mem)} (kx : ∀ r σ, AW (XM l D ad cid) M12_sumUp 5 emb [(0, .ref (ad 12 0 0)), (3, .int x3), (4, .ref (ad a4 b4 c4)), (5, .int x5)] 145 [] σ (G r σ)) : ∀ (n : Nat) (σ : Mem) (x6 : Int32), AW (XM l D ad cid) M12_sumUp 5 emb [(0, .ref (ad 12 0 0)), (3, .int x3), (4, .ref (ad a4 b4 c4)), (5, .int x5), (6, .int x6)] 86 [] σ (bd (F12_sumUp_L86 x3 a4 b4 c4 n4 x5 n σ x6) G) := by
  intro n
  induction n with
  | zero => intros; exact aw_none
  | succ n ih =>
    intro σ x6
    refine aw_bdB ?_
    rw [F12_sumUp_L86.eq_2]
    refine aw_iload 4 dX12_sumUp_86 rfl ?_
    refine aw_bipush 20 dX12_sumUp_88 (by decide) ?_
    refine aw_iload 3 dX12_sumUp_90 rfl ?_
    refine aw_imul dX12_sumUp_92 ?_
    refine aw_icmp_gt 145 dX12_sumUp_93 (by decide) ?_ ?_
    · refine aw_ls (ls' := [(0, .ref (ad 12 0 0)), (3, .int x3), (4, .ref (ad a4 b4 c4)), (5, .int x5)]) [0, 1, 2, 3] rfl ?_
      exact kx () σ
    · refine aw_iconst 0 dX12_sumUp_96 (by decide) ?_
      refine aw_istore (ls' := [(0, .ref (ad 12 0 0)), (3, .int x3), (4, .ref (ad a4 b4 c4)), (5, .int x5), (6, .int x6), (7, .int 0)]) [1, 2, 3, 4, 5, 0] dX12_sumUp_97 (by decide) rfl ?_
      refine aw_assocW ?_
      refine c12_sumUp_L99 x3 a4 b4 c4 n4 hn4 x5 x6 (fun r_14 s_15 => ?_) fuelK σ 0
      refine aw_iinc (ls' := [(0, .ref (ad 12 0 0)), (3, .int x3), (4, .ref (ad a4 b4 c4)), (5, .int x5), (6, .int (x6 + 1))]) (x6 + 1) 4 [1, 2, 3, 4, 0] dX12_sumUp_139 rfl (by rfl) (by decide) rfl ?_
      refine aw_goto 86 dX12_sumUp_142 (by decide) ?_
      exact ih s_15 (x6 + 1)
def F12_sumUp_L148 (x3 : Int32) (a4 : Nat) (b4 : Nat) (c4 : Nat) (n4 : Nat) (x5 : Int32) : Nat → Mem → Int32 → Option ((Unit) × Mem)
  | 0 => fun _ _ => none
  | n + 1 => fun σ x6 =>
    if 101 ≤ x6 then (some ((), σ)) else ((ald 101 (gL σ 12 0 11) x6).bind fun v_18 => chk n4 x6 <| bnd (sL σ a4 b4 c4 (Int32.toNatClampNeg x6) v_18) fun s_19 => (F12_sumUp_L148 x3 a4 b4 c4 n4 x5 n) s_19 (x6 + 1))
set_option maxRecDepth 20000 in
theorem c12_sumUp_L148 {l : Launch} {D : va_G} {ad : Nat → Nat → Nat → Nat} {cid : Nat → Nat → Nat → ClassId} {α : Type} {emb : α → Option Value} (x3 : Int32) (a4 : Nat) (b4 : Nat) (c4 : Nat) (n4 : Nat) (hn4 : IsL (XM l D ad cid) a4 b4 c4 n4) (x5 : Int32) {G : Unit → Mem → Option (α × Mem)} (kx : ∀ r σ, AW (XM l D ad cid) M12_sumUp 5 emb [(0, .ref (ad 12 0 0)), (3, .int x3), (4, .ref (ad a4 b4 c4)), (5, .int x5)] 173 [] σ (G r σ)) : ∀ (n : Nat) (σ : Mem) (x6 : Int32), AW (XM l D ad cid) M12_sumUp 5 emb [(0, .ref (ad 12 0 0)), (3, .int x3), (4, .ref (ad a4 b4 c4)), (5, .int x5), (6, .int x6)] 148 [] σ (bd (F12_sumUp_L148 x3 a4 b4 c4 n4 x5 n σ x6) G) := by
  intro n
  induction n with
  | zero => intros; exact aw_none
  | succ n ih =>
    intro σ x6
    refine aw_bdB ?_
    rw [F12_sumUp_L148.eq_2]
    refine aw_iload 4 dX12_sumUp_148 rfl ?_
    refine aw_bipush 101 dX12_sumUp_150 (by decide) ?_
    refine aw_icmp_ge 173 dX12_sumUp_152 (by decide) ?_ ?_
    · refine aw_ls (ls' := [(0, .ref (ad 12 0 0)), (3, .int x3), (4, .ref (ad a4 b4 c4)), (5, .int x5)]) [0, 1, 2, 3] rfl ?_
      exact kx () σ
    · refine aw_aload 2 dX12_sumUp_155 rfl ?_
      refine aw_iload 4 dX12_sumUp_157 rfl ?_
      refine aw_aload_n 0 dX12_sumUp_159 rfl rfl ?_
      refine aw_getf (fg_12_39 (by decide)) ci_12 (by decide) w_1497 dX12_sumUp_160 ?_
      refine aw_iload 4 dX12_sumUp_163 rfl ?_
      refine aw_laload (ar_12_11 (by decide)) dX12_sumUp_165 (fun v_18 => ?_)
      refine aw_lastore hn4 dX12_sumUp_166 ?_
      refine aw_bndM (fun s_19 => ?_)
      refine aw_iinc (ls' := [(0, .ref (ad 12 0 0)), (3, .int x3), (4, .ref (ad a4 b4 c4)), (5, .int x5), (6, .int (x6 + 1))]) (x6 + 1) 4 [1, 2, 3, 4, 0] dX12_sumUp_167 rfl (by rfl) (by decide) rfl ?_
      refine aw_goto 148 dX12_sumUp_170 (by decide) ?_
      exact ih s_19 (x6 + 1)
def F12_sumUp_L53 (x3 : Int32) (a4 : Nat) (b4 : Nat) (c4 : Nat) (n4 : Nat) : Nat → Mem → Int32 → Option ((Unit) × Mem)
  | 0 => fun _ _ => none
  | n + 1 => fun σ x5 =>
    if x3 ≤ x5 then (some ((), σ)) else (bd (F12_sumUp_L62 x3 a4 b4 c4 n4 x5 fuelK σ 0) fun r_8 s_9 => bd (F12_sumUp_L86 x3 a4 b4 c4 n4 x5 fuelK s_9 0) fun r_16 s_17 => bd (F12_sumUp_L148 x3 a4 b4 c4 n4 x5 fuelK s_17 0) fun r_20 s_21 => (F12_sumUp_L53 x3 a4 b4 c4 n4 n) s_21 (x5 + 1))
set_option maxRecDepth 20000 in
theorem c12_sumUp_L53 {l : Launch} {D : va_G} {ad : Nat → Nat → Nat → Nat} {cid : Nat → Nat → Nat → ClassId} {α : Type} {emb : α → Option Value} (x3 : Int32) (a4 : Nat) (b4 : Nat) (c4 : Nat) (n4 : Nat) (hn4 : IsL (XM l D ad cid) a4 b4 c4 n4) {G : Unit → Mem → Option (α × Mem)} (kx : ∀ r σ, AW (XM l D ad cid) M12_sumUp 5 emb [] 179 [] σ (G r σ)) : ∀ (n : Nat) (σ : Mem) (x5 : Int32), AW (XM l D ad cid) M12_sumUp 5 emb [(0, .ref (ad 12 0 0)), (3, .int x3), (4, .ref (ad a4 b4 c4)), (5, .int x5)] 53 [] σ (bd (F12_sumUp_L53 x3 a4 b4 c4 n4 n σ x5) G) := by
  intro n
  induction n with
  | zero => intros; exact aw_none
  | succ n ih =>
    intro σ x5
    refine aw_bdB ?_
    rw [F12_sumUp_L53.eq_2]
    refine aw_iload 3 dX12_sumUp_53 rfl ?_
    refine aw_iload_n 1 dX12_sumUp_55 rfl rfl ?_
    refine aw_icmp_ge 179 dX12_sumUp_56 (by decide) ?_ ?_
    · refine aw_ls (ls' := []) [] rfl ?_
      exact kx () σ
    · refine aw_iconst 0 dX12_sumUp_59 (by decide) ?_
      refine aw_istore (ls' := [(0, .ref (ad 12 0 0)), (3, .int x3), (4, .ref (ad a4 b4 c4)), (5, .int x5), (6, .int 0)]) [1, 2, 3, 4, 0] dX12_sumUp_60 (by decide) rfl ?_
      refine aw_assocW ?_
      refine c12_sumUp_L62 x3 a4 b4 c4 n4 hn4 x5 (fun r_8 s_9 => ?_) fuelK σ 0
      refine aw_iconst 0 dX12_sumUp_83 (by decide) ?_
      refine aw_istore (ls' := [(0, .ref (ad 12 0 0)), (3, .int x3), (4, .ref (ad a4 b4 c4)), (5, .int x5), (6, .int 0)]) [1, 2, 3, 4, 0] dX12_sumUp_84 (by decide) rfl ?_
      refine aw_assocW ?_
      refine c12_sumUp_L86 x3 a4 b4 c4 n4 hn4 x5 (fun r_16 s_17 => ?_) fuelK s_9 0
      refine aw_iconst 0 dX12_sumUp_145 (by decide) ?_
      refine aw_istore (ls' := [(0, .ref (ad 12 0 0)), (3, .int x3), (4, .ref (ad a4 b4 c4)), (5, .int x5), (6, .int 0)]) [1, 2, 3, 4, 0] dX12_sumUp_146 (by decide) rfl ?_
      refine aw_assocW ?_
      refine c12_sumUp_L148 x3 a4 b4 c4 n4 hn4 x5 (fun r_20 s_21 => ?_) fuelK s_17 0
      refine aw_iinc (ls' := [(0, .ref (ad 12 0 0)), (3, .int x3), (4, .ref (ad a4 b4 c4)), (5, .int (x5 + 1))]) (x5 + 1) 3 [1, 2, 3, 0] dX12_sumUp_173 rfl (by rfl) (by decide) rfl ?_
      refine aw_goto 53 dX12_sumUp_176 (by decide) ?_
      exact ih s_21 (x5 + 1)
def F12_sumUp (σ : Mem) (x1 : Int32) (x2 : Int32) (x3 : Int32) (a4 : Nat) (b4 : Nat) (c4 : Nat) (n4 : Nat) : Option (Unit × Mem) :=
  (ald 3000 (gI σ 12 0 5) (53 + x1)).bind fun v_1 => bd (F12_counts σ x1 x2 v_1 2 0 0 0) fun _ s_2 => bd (F12_sumUp_L22 x3 a4 b4 c4 n4 fuelK s_2 0) fun r_5 s_6 => bd (F12_sumUp_L53 x3 a4 b4 c4 n4 fuelK s_6 0) fun r_22 s_23 => some ((), s_23)
set_option maxRecDepth 20000 in
theorem c12_sumUp {l : Launch} {D : va_G} {ad : Nat → Nat → Nat → Nat} {cid : Nat → Nat → Nat → ClassId} (σ : Mem) (x1 : Int32) (x2 : Int32) (x3 : Int32) (a4 : Nat) (b4 : Nat) (c4 : Nat) (n4 : Nat) (hn4 : IsL (XM l D ad cid) a4 b4 c4 n4) : AMF (XM l D ad cid) M12_sumUp 5 eU [.ref (ad 12 0 0), .int x1, .int x2, .int x3, .ref (ad a4 b4 c4)] σ (F12_sumUp σ x1 x2 x3 a4 b4 c4 n4) := by
  refine AM.ofW (by decide +kernel) (Nat.le_of_ble_eq_true rfl) (ls := [(0, .ref (ad 12 0 0)), (1, .int x1), (2, .int x2), (3, .int x3), (4, .ref (ad a4 b4 c4))]) rfl ?_
  refine aw_entry ?_
  unfold F12_sumUp
  refine aw_aload_n 0 dX12_sumUp_0 rfl rfl ?_
  refine aw_iload_n 1 dX12_sumUp_1 rfl rfl ?_
  refine aw_iload_n 2 dX12_sumUp_2 rfl rfl ?_
  refine aw_aload_n 0 dX12_sumUp_3 rfl rfl ?_
  refine aw_getf (fg_12_20 (by decide)) ci_12 (by decide) w_1478 dX12_sumUp_4 ?_
  refine aw_bipush 53 dX12_sumUp_7 (by decide) ?_
  refine aw_iload_n 1 dX12_sumUp_9 rfl rfl ?_
  refine aw_iadd dX12_sumUp_10 ?_
  refine aw_iaload (ar_12_5 (by decide)) dX12_sumUp_11 (fun v_1 => ?_)
  refine aw_iconst 2 dX12_sumUp_12 (by decide) ?_
  refine aw_iconst 0 dX12_sumUp_13 (by decide) ?_
  refine aw_iconst 0 dX12_sumUp_14 (by decide) ?_
  refine aw_iconst 0 dX12_sumUp_15 (by decide) ?_
  refine aw_callVW_U (c12_counts σ x1 x2 v_1 2 0 0 0) (io_12 (by decide)) ci_12 (by decide) mk_12_counts w_2048 w_116 w_2046 rfl rfl (Nat.le_of_ble_eq_true rfl) dX12_sumUp_16 (fun _ s_2 => ?_)
  refine aw_iconst 0 dX12_sumUp_19 (by decide) ?_
  refine aw_istore (ls' := [(0, .ref (ad 12 0 0)), (3, .int x3), (4, .ref (ad a4 b4 c4)), (5, .int 0)]) [1, 4, 5, 0] dX12_sumUp_20 (by decide) rfl ?_
  refine aw_assocW ?_
  refine c12_sumUp_L22 x3 a4 b4 c4 n4 hn4 (fun r_5 s_6 => ?_) fuelK s_2 0
  refine aw_iconst 0 dX12_sumUp_50 (by decide) ?_
  refine aw_istore (ls' := [(0, .ref (ad 12 0 0)), (3, .int x3), (4, .ref (ad a4 b4 c4)), (5, .int 0)]) [1, 2, 3, 0] dX12_sumUp_51 (by decide) rfl ?_
  refine aw_assocW ?_
  refine c12_sumUp_L53 x3 a4 b4 c4 n4 hn4 (fun r_22 s_23 => ?_) fuelK s_6 0
  exact aw_return rfl dX12_sumUp_179
