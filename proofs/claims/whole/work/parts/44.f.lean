def F12_bestPea_L84 (x1 : Int32) (x2 : Int32) (x3 : Int32) : Nat → Mem → Int32 → Int32 → Option ((Int32) × Mem)
  | 0 => fun _ _ _ => none
  | n + 1 => fun σ x4 x5 =>
    (ald 3000 (gI σ 12 0 5) 5).bind fun v_9 => if v_9 ≤ x5 then (some (x4, σ)) else ((ald 3000 (gI σ 12 0 5) 7).bind fun v_10 => bd (F12_counts σ x1 x5 x2 x3 0 0 v_10) fun _ s_11 => bd (F12_isBetter s_11) fun v_12 s_13 => if v_12 = true then ((F12_bestPea_L84 x1 x2 x3 n) s_13 x5 (x5 + 1)) else ((F12_bestPea_L84 x1 x2 x3 n) s_13 x4 (x5 + 1)))
set_option maxRecDepth 20000 in
theorem c12_bestPea_L84 {l : Launch} {D : va_G} {ad : Nat → Nat → Nat → Nat} {cid : Nat → Nat → Nat → ClassId} {α : Type} {emb : α → Option Value} (x1 : Int32) (x2 : Int32) (x3 : Int32) {G : Int32 → Mem → Option (α × Mem)} (kx : ∀ r σ, AW (XM l D ad cid) M12_bestPea 5 emb [(0, .ref (ad 12 0 0)), (4, .int r)] 130 [] σ (G r σ)) : ∀ (n : Nat) (σ : Mem) (x4 : Int32) (x5 : Int32), AW (XM l D ad cid) M12_bestPea 5 emb [(0, .ref (ad 12 0 0)), (1, .int x1), (2, .int x2), (3, .int x3), (4, .int x4), (5, .int x5)] 84 [] σ (bd (F12_bestPea_L84 x1 x2 x3 n σ x4 x5) G) := by
  intro n
  induction n with
  | zero => intros; exact aw_none
  | succ n ih =>
    intro σ x4 x5
    refine aw_bdB ?_
    rw [F12_bestPea_L84.eq_2]
    refine aw_iload 5 dX12_bestPea_84 rfl ?_
    refine aw_aload_n 0 dX12_bestPea_86 rfl rfl ?_
    refine aw_getf (fg_12_20 (by decide)) ci_12 (by decide) w_1476 dX12_bestPea_87 ?_
    refine aw_iconst 5 dX12_bestPea_90 (by decide) ?_
    refine aw_iaload (ar_12_5 (by decide)) dX12_bestPea_91 (fun v_9 => ?_)
    refine aw_icmp_ge 130 dX12_bestPea_92 (by decide) ?_ ?_
    · refine aw_ls (ls' := [(0, .ref (ad 12 0 0)), (4, .int x4)]) [0, 4] rfl ?_
      exact kx x4 σ
    · refine aw_aload_n 0 dX12_bestPea_95 rfl rfl ?_
      refine aw_iload_n 1 dX12_bestPea_96 rfl rfl ?_
      refine aw_iload 5 dX12_bestPea_97 rfl ?_
      refine aw_iload_n 2 dX12_bestPea_99 rfl rfl ?_
      refine aw_iload_n 3 dX12_bestPea_100 rfl rfl ?_
      refine aw_iconst 0 dX12_bestPea_101 (by decide) ?_
      refine aw_iconst 0 dX12_bestPea_102 (by decide) ?_
      refine aw_aload_n 0 dX12_bestPea_103 rfl rfl ?_
      refine aw_getf (fg_12_20 (by decide)) ci_12 (by decide) w_1476 dX12_bestPea_104 ?_
      refine aw_bipush 7 dX12_bestPea_107 (by decide) ?_
      refine aw_iaload (ar_12_5 (by decide)) dX12_bestPea_109 (fun v_10 => ?_)
      refine aw_callVW_U (c12_counts σ x1 x5 x2 x3 0 0 v_10) (io_12 (by decide)) ci_12 (by decide) mk_12_counts w_2046 w_116 w_2044 rfl rfl (Nat.le_of_ble_eq_true rfl) dX12_bestPea_110 (fun _ s_11 => ?_)
      refine aw_aload_n 0 dX12_bestPea_113 rfl rfl ?_
      refine aw_callVW_B (c12_isBetter s_11 ) (io_12 (by decide)) ci_12 (by decide) mk_12_isBetter w_2067 w_119 w_2065 rfl rfl (Nat.le_of_ble_eq_true rfl) dX12_bestPea_114 (fun v_12 s_13 => ?_)
      refine aw_bif_eq 124 dX12_bestPea_117 (by decide) ?_ ?_
      · refine aw_iinc (ls' := [(0, .ref (ad 12 0 0)), (1, .int x1), (2, .int x2), (3, .int x3), (4, .int x4), (5, .int (x5 + 1))]) (x5 + 1) 5 [1, 2, 3, 4, 5, 0] dX12_bestPea_124 rfl (by rfl) (by decide) rfl ?_
        refine aw_goto 84 dX12_bestPea_127 (by decide) ?_
        exact ih s_13 x4 (x5 + 1)
      · refine aw_iload 5 dX12_bestPea_120 rfl ?_
        refine aw_istore (ls' := [(0, .ref (ad 12 0 0)), (1, .int x1), (2, .int x2), (3, .int x3), (4, .int x5), (5, .int x5)]) [1, 2, 3, 4, 0, 5] dX12_bestPea_122 (by decide) rfl ?_
        refine aw_iinc (ls' := [(0, .ref (ad 12 0 0)), (1, .int x1), (2, .int x2), (3, .int x3), (4, .int x5), (5, .int (x5 + 1))]) (x5 + 1) 5 [1, 2, 3, 4, 5, 0] dX12_bestPea_124 rfl (by rfl) (by decide) rfl ?_
        refine aw_goto 84 dX12_bestPea_127 (by decide) ?_
        exact ih s_13 x5 (x5 + 1)
def F12_bestPea (σ : Mem) (x1 : Int32) (x2 : Int32) (x3 : Int32) : Option (Int32 × Mem) :=
  bnd (sI σ 12 0 0 1 0) fun s_1 => bnd (sI s_1 12 0 0 0 0) fun s_2 => (F12_isShooterAt s_2 x1).bind fun v_3 => if v_3 = true then ((ald 3000 (gI s_2 12 0 5) (53 + x1)).bind fun v_4 => if (F12_isPuffing x2 v_4) = true then (if (F12_isIn (Int32.toInt64 x3) 0 3) = true then ((ald 3000 (gI s_2 12 0 5) 5).bind fun v_7 => if v_7 = 0 then (bd (F12_refuse s_2 8) fun v_18 s_19 => some (v_18, s_19)) else (bd (F12_noBest s_2) fun _ s_8 => bd (F12_bestPea_L84 x1 x2 x3 fuelK s_8 0 0) fun r_14 s_15 => bd (F12_fraction s_15 (gL s_15 12 0 0 35) (gL s_15 12 0 0 36)) fun v_16 s_17 => some (r_14, s_17))) else (bd (F12_refuse s_2 5) fun v_20 s_21 => some (v_20, s_21))) else (bd (F12_refuse s_2 5) fun v_5 s_6 => some (v_5, s_6))) else (bd (F12_refuse s_2 2) fun v_22 s_23 => some (v_22, s_23))
set_option maxRecDepth 20000 in
theorem c12_bestPea {l : Launch} {D : va_G} {ad : Nat → Nat → Nat → Nat} {cid : Nat → Nat → Nat → ClassId} (σ : Mem) (x1 : Int32) (x2 : Int32) (x3 : Int32) : AMF (XM l D ad cid) M12_bestPea 5 eI [.ref (ad 12 0 0), .int x1, .int x2, .int x3] σ (F12_bestPea σ x1 x2 x3) := by
  refine AM.ofW (by decide +kernel) (Nat.le_of_ble_eq_true rfl) (ls := [(0, .ref (ad 12 0 0)), (1, .int x1), (2, .int x2), (3, .int x3)]) rfl ?_
  refine aw_entry ?_
  unfold F12_bestPea
  refine aw_aload_n 0 dX12_bestPea_0 rfl rfl ?_
  refine aw_iconst 0 dX12_bestPea_1 (by decide) ?_
  refine aw_putI (fs_12_1 (by decide)) ci_12 (by decide) rfl rfl w_1457 dX12_bestPea_2 ?_
  refine aw_bndM (fun s_1 => ?_)
  refine aw_aload_n 0 dX12_bestPea_5 rfl rfl ?_
  refine aw_iconst 0 dX12_bestPea_6 (by decide) ?_
  refine aw_putI (fs_12_0 (by decide)) ci_12 (by decide) rfl rfl w_1456 dX12_bestPea_7 ?_
  refine aw_bndM (fun s_2 => ?_)
  refine aw_aload_n 0 dX12_bestPea_10 rfl rfl ?_
  refine aw_iload_n 1 dX12_bestPea_11 rfl rfl ?_
  refine aw_callVO_B (c12_isShooterAt s_2 x1) (io_12 (by decide)) ci_12 (by decide) mk_12_isShooterAt w_1943 w_104 w_1941 rfl rfl (Nat.le_of_ble_eq_true rfl) dX12_bestPea_12 (fun v_3 => ?_)
  refine aw_bif_ne 24 dX12_bestPea_15 (by decide) ?_ ?_
  · refine aw_iload_n 2 dX12_bestPea_24 rfl rfl ?_
    refine aw_aload_n 0 dX12_bestPea_25 rfl rfl ?_
    refine aw_getf (fg_12_20 (by decide)) ci_12 (by decide) w_1476 dX12_bestPea_26 ?_
    refine aw_bipush 53 dX12_bestPea_29 (by decide) ?_
    refine aw_iload_n 1 dX12_bestPea_31 rfl rfl ?_
    refine aw_iadd dX12_bestPea_32 ?_
    refine aw_iaload (ar_12_5 (by decide)) dX12_bestPea_33 (fun v_4 => ?_)
    refine aw_callST_B (c12_isPuffing s_2 x2 v_4) (by decide) mk_12_isPuffing w_1961 w_1960 rfl rfl (Nat.le_of_ble_eq_true rfl) dX12_bestPea_34 ?_
    refine aw_bif_eq 52 dX12_bestPea_37 (by decide) ?_ ?_
    · refine aw_aload_n 0 dX12_bestPea_52 rfl rfl ?_
      refine aw_iconst 5 dX12_bestPea_53 (by decide) ?_
      refine aw_callVW_I (c12_refuse s_2 5) (io_12 (by decide)) ci_12 (by decide) mk_12_refuse w_1919 w_101 w_1917 rfl rfl (Nat.le_of_ble_eq_true rfl) dX12_bestPea_54 (fun v_5 s_6 => ?_)
      exact aw_ireturn rfl dX12_bestPea_57
    · refine aw_iload_n 3 dX12_bestPea_40 rfl rfl ?_
      refine aw_i2l dX12_bestPea_41 ?_
      refine aw_lconst 0 dX12_bestPea_42 (by decide) ?_
      refine aw_ldc2 w_1979 dX12_bestPea_43 ?_
      refine aw_callST_B (c12_isIn s_2 (Int32.toInt64 x3) 0 3) (by decide) mk_12_isIn w_1752 w_1751 rfl rfl (Nat.le_of_ble_eq_true rfl) dX12_bestPea_46 ?_
      refine aw_bif_ne 58 dX12_bestPea_49 (by decide) ?_ ?_
      · refine aw_aload_n 0 dX12_bestPea_58 rfl rfl ?_
        refine aw_getf (fg_12_20 (by decide)) ci_12 (by decide) w_1476 dX12_bestPea_59 ?_
        refine aw_iconst 5 dX12_bestPea_62 (by decide) ?_
        refine aw_iaload (ar_12_5 (by decide)) dX12_bestPea_63 (fun v_7 => ?_)
        refine aw_if_ne 74 dX12_bestPea_64 (by decide) ?_ ?_
        · refine aw_aload_n 0 dX12_bestPea_74 rfl rfl ?_
          refine aw_callVW_U (c12_noBest s_2 ) (io_12 (by decide)) ci_12 (by decide) mk_12_noBest w_2063 w_118 w_2061 rfl rfl (Nat.le_of_ble_eq_true rfl) dX12_bestPea_75 (fun _ s_8 => ?_)
          refine aw_iconst 0 dX12_bestPea_78 (by decide) ?_
          refine aw_istore (ls' := [(0, .ref (ad 12 0 0)), (1, .int x1), (2, .int x2), (3, .int x3), (4, .int 0)]) [1, 2, 3, 4, 0] dX12_bestPea_79 (by decide) rfl ?_
          refine aw_iconst 0 dX12_bestPea_81 (by decide) ?_
          refine aw_istore (ls' := [(0, .ref (ad 12 0 0)), (1, .int x1), (2, .int x2), (3, .int x3), (4, .int 0), (5, .int 0)]) [1, 2, 3, 4, 5, 0] dX12_bestPea_82 (by decide) rfl ?_
          refine aw_assocW ?_
          refine c12_bestPea_L84 x1 x2 x3 (fun r_14 s_15 => ?_) fuelK s_8 0 0
          refine aw_aload_n 0 dX12_bestPea_130 rfl rfl ?_
          refine aw_aload_n 0 dX12_bestPea_131 rfl rfl ?_
          refine aw_getf (fg_12_35 (by decide)) ci_12 (by decide) w_1491 dX12_bestPea_132 ?_
          refine aw_aload_n 0 dX12_bestPea_135 rfl rfl ?_
          refine aw_getf (fg_12_36 (by decide)) ci_12 (by decide) w_1492 dX12_bestPea_136 ?_
          refine aw_callVW_B (c12_fraction s_15 (gL s_15 12 0 0 35) (gL s_15 12 0 0 36)) (io_12 (by decide)) ci_12 (by decide) mk_12_fraction w_2050 w_117 w_2048 rfl rfl (Nat.le_of_ble_eq_true rfl) dX12_bestPea_139 (fun v_16 s_17 => ?_)
          refine aw_pop dX12_bestPea_142 rfl ?_
          refine aw_iload 1 dX12_bestPea_143 rfl ?_
          exact aw_ireturn rfl dX12_bestPea_145
        · refine aw_aload_n 0 dX12_bestPea_67 rfl rfl ?_
          refine aw_bipush 8 dX12_bestPea_68 (by decide) ?_
          refine aw_callVW_I (c12_refuse s_2 8) (io_12 (by decide)) ci_12 (by decide) mk_12_refuse w_1919 w_101 w_1917 rfl rfl (Nat.le_of_ble_eq_true rfl) dX12_bestPea_70 (fun v_18 s_19 => ?_)
          exact aw_ireturn rfl dX12_bestPea_73
      · refine aw_aload_n 0 dX12_bestPea_52 rfl rfl ?_
        refine aw_iconst 5 dX12_bestPea_53 (by decide) ?_
        refine aw_callVW_I (c12_refuse s_2 5) (io_12 (by decide)) ci_12 (by decide) mk_12_refuse w_1919 w_101 w_1917 rfl rfl (Nat.le_of_ble_eq_true rfl) dX12_bestPea_54 (fun v_20 s_21 => ?_)
        exact aw_ireturn rfl dX12_bestPea_57
  · refine aw_aload_n 0 dX12_bestPea_18 rfl rfl ?_
    refine aw_iconst 2 dX12_bestPea_19 (by decide) ?_
    refine aw_callVW_I (c12_refuse s_2 2) (io_12 (by decide)) ci_12 (by decide) mk_12_refuse w_1919 w_101 w_1917 rfl rfl (Nat.le_of_ble_eq_true rfl) dX12_bestPea_20 (fun v_22 s_23 => ?_)
    exact aw_ireturn rfl dX12_bestPea_23
def F12_seriesOf_p72 (rc : Mem → Int64 → Int32 → Int32 → Option ((Int64) × Mem)) (σ : Mem) (x1 : Int32) (x2 : Int32) (x3 : Int32) (x4 : Int32) (x5 : Int32) (x6 : Int32) (x7 : Int32) (y8 : Int64) (x10 : Int32) (x11 : Int32) : Option ((Int64) × Mem) :=
  if x7 = 0 then none else if (iRem x11 x7) = 0 then (rc σ y8 0 (x11 + 1)) else (rc σ y8 x10 (x11 + 1))
set_option maxRecDepth 20000 in
theorem c12_seriesOf_p72 {l : Launch} {D : va_G} {ad : Nat → Nat → Nat → Nat} {cid : Nat → Nat → Nat → ClassId} {α : Type} {emb : α → Option Value}  (x1 : Int32) (x2 : Int32) (x3 : Int32) (x4 : Int32) (x5 : Int32) (x6 : Int32) (x7 : Int32) {G : Int64 → Mem → Option (α × Mem)} (kx : ∀ r σ, AW (XM l D ad cid) M12_seriesOf 5 emb [(8, .long r)] 89 [] σ (G r σ)) {rc : Mem → Int64 → Int32 → Int32 → Option ((Int64) × Mem)} (ih : ∀ (σ : Mem) (y8 : Int64) (x10 : Int32) (x11 : Int32), AW (XM l D ad cid) M12_seriesOf 5 emb [(0, .ref (ad 12 0 0)), (1, .int x1), (2, .int x2), (3, .int x3), (4, .int x4), (5, .int x5), (6, .int x6), (7, .int x7), (8, .long y8), (10, .int x10), (11, .int x11)] 9 [] σ (bd (rc σ y8 x10 x11) G)) (σ : Mem) (y8 : Int64) (x10 : Int32) (x11 : Int32) : AW (XM l D ad cid) M12_seriesOf 5 emb [(0, .ref (ad 12 0 0)), (1, .int x1), (2, .int x2), (3, .int x3), (4, .int x4), (5, .int x5), (6, .int x6), (7, .int x7), (8, .long y8), (10, .int x10), (11, .int x11)] 72 [] σ ((F12_seriesOf_p72 rc σ x1 x2 x3 x4 x5 x6 x7 y8 x10 x11).bind (fun q => G q.1 q.2)) := by
  unfold F12_seriesOf_p72
  refine aw_iload 10 dX12_seriesOf_72 rfl ?_
  refine aw_iload 7 dX12_seriesOf_74 rfl ?_
  refine aw_irem dX12_seriesOf_76 ?_
  refine aw_if_ne 83 dX12_seriesOf_77 (by decide) ?_ ?_
  · refine aw_iinc (ls' := [(0, .ref (ad 12 0 0)), (1, .int x1), (2, .int x2), (3, .int x3), (4, .int x4), (5, .int x5), (6, .int x6), (7, .int x7), (8, .long y8), (10, .int x10), (11, .int (x11 + 1))]) (x11 + 1) 10 [1, 2, 3, 4, 5, 6, 7, 8, 9, 10, 0] dX12_seriesOf_83 rfl (by rfl) (by decide) rfl ?_
    refine aw_goto 9 dX12_seriesOf_86 (by decide) ?_
    exact ih σ y8 x10 (x11 + 1)
  · refine aw_iconst 0 dX12_seriesOf_80 (by decide) ?_
    refine aw_istore (ls' := [(0, .ref (ad 12 0 0)), (1, .int x1), (2, .int x2), (3, .int x3), (4, .int x4), (5, .int x5), (6, .int x6), (7, .int x7), (8, .long y8), (10, .int 0), (11, .int x11)]) [1, 2, 3, 4, 5, 6, 7, 8, 9, 0, 10] dX12_seriesOf_81 (by decide) rfl ?_
    refine aw_iinc (ls' := [(0, .ref (ad 12 0 0)), (1, .int x1), (2, .int x2), (3, .int x3), (4, .int x4), (5, .int x5), (6, .int x6), (7, .int x7), (8, .long y8), (10, .int 0), (11, .int (x11 + 1))]) (x11 + 1) 10 [1, 2, 3, 4, 5, 6, 7, 8, 9, 10, 0] dX12_seriesOf_83 rfl (by rfl) (by decide) rfl ?_
    refine aw_goto 9 dX12_seriesOf_86 (by decide) ?_
    exact ih σ y8 0 (x11 + 1)
def F12_seriesOf_L9 (x1 : Int32) (x2 : Int32) (x3 : Int32) (x4 : Int32) (x5 : Int32) (x6 : Int32) (x7 : Int32) : Nat → Mem → Int64 → Int32 → Int32 → Option ((Int64) × Mem)
  | 0 => fun _ _ _ _ => none
  | n + 1 => fun σ y8 x10 x11 =>
    if x6 < x11 then (some (y8, σ)) else (bd (F12_counts σ x1 x2 x3 2 x4 x5 x10) fun _ s_1 => if (Int32.toInt64 (gI s_1 12 0 0 33)) = 0 then none else bnd (y8 + ((Int32.toInt64 (gI s_1 12 0 0 34)) * (18 / (Int32.toInt64 (gI s_1 12 0 0 33))))) fun v_2 => (F12_fateOf s_1 x2 x3 x10).bind fun v_3 => if v_3 = 0 then (bnd (iMin 20 (x10 + 1)) fun v_4 => F12_seriesOf_p72 (F12_seriesOf_L9 x1 x2 x3 x4 x5 x6 x7 n) s_1 x1 x2 x3 x4 x5 x6 x7 v_2 v_4 x11) else (F12_seriesOf_p72 (F12_seriesOf_L9 x1 x2 x3 x4 x5 x6 x7 n) s_1 x1 x2 x3 x4 x5 x6 x7 v_2 x10 x11))
set_option maxRecDepth 20000 in
theorem c12_seriesOf_L9 {l : Launch} {D : va_G} {ad : Nat → Nat → Nat → Nat} {cid : Nat → Nat → Nat → ClassId} {α : Type} {emb : α → Option Value} (x1 : Int32) (x2 : Int32) (x3 : Int32) (x4 : Int32) (x5 : Int32) (x6 : Int32) (x7 : Int32) {G : Int64 → Mem → Option (α × Mem)} (kx : ∀ r σ, AW (XM l D ad cid) M12_seriesOf 5 emb [(8, .long r)] 89 [] σ (G r σ)) : ∀ (n : Nat) (σ : Mem) (y8 : Int64) (x10 : Int32) (x11 : Int32), AW (XM l D ad cid) M12_seriesOf 5 emb [(0, .ref (ad 12 0 0)), (1, .int x1), (2, .int x2), (3, .int x3), (4, .int x4), (5, .int x5), (6, .int x6), (7, .int x7), (8, .long y8), (10, .int x10), (11, .int x11)] 9 [] σ (bd (F12_seriesOf_L9 x1 x2 x3 x4 x5 x6 x7 n σ y8 x10 x11) G) := by
  intro n
  induction n with
  | zero => intros; exact aw_none
  | succ n ih =>
    intro σ y8 x10 x11
    refine aw_bdB ?_
    rw [F12_seriesOf_L9.eq_2]
    refine aw_iload 10 dX12_seriesOf_9 rfl ?_
    refine aw_iload 6 dX12_seriesOf_11 rfl ?_
    refine aw_icmp_gt 89 dX12_seriesOf_13 (by decide) ?_ ?_
    · refine aw_ls (ls' := [(8, .long y8)]) [8] rfl ?_
      exact kx y8 σ
    · refine aw_aload_n 0 dX12_seriesOf_16 rfl rfl ?_
      refine aw_iload_n 1 dX12_seriesOf_17 rfl rfl ?_
      refine aw_iload_n 2 dX12_seriesOf_18 rfl rfl ?_
      refine aw_iload_n 3 dX12_seriesOf_19 rfl rfl ?_
      refine aw_iconst 2 dX12_seriesOf_20 (by decide) ?_
      refine aw_iload 4 dX12_seriesOf_21 rfl ?_
      refine aw_iload 5 dX12_seriesOf_23 rfl ?_
      refine aw_iload 9 dX12_seriesOf_25 rfl ?_
      refine aw_callVW_U (c12_counts σ x1 x2 x3 2 x4 x5 x10) (io_12 (by decide)) ci_12 (by decide) mk_12_counts w_2046 w_116 w_2044 rfl rfl (Nat.le_of_ble_eq_true rfl) dX12_seriesOf_27 (fun _ s_1 => ?_)
      refine aw_lload 8 dX12_seriesOf_30 rfl ?_
      refine aw_aload_n 0 dX12_seriesOf_32 rfl rfl ?_
      refine aw_getf (fg_12_34 (by decide)) ci_12 (by decide) w_1490 dX12_seriesOf_33 ?_
      refine aw_i2l dX12_seriesOf_36 ?_
      refine aw_ldc2 w_1835 dX12_seriesOf_37 ?_
      refine aw_aload_n 0 dX12_seriesOf_40 rfl rfl ?_
      refine aw_getf (fg_12_33 (by decide)) ci_12 (by decide) w_1489 dX12_seriesOf_41 ?_
      refine aw_i2l dX12_seriesOf_44 ?_
      refine aw_ldiv dX12_seriesOf_45 ?_
      refine aw_lmul dX12_seriesOf_46 ?_
      refine aw_ladd dX12_seriesOf_47 ?_
      refine aw_bnd_long (fun v_2 => ?_)
      refine aw_lstore (ls' := [(0, .ref (ad 12 0 0)), (1, .int x1), (2, .int x2), (3, .int x3), (4, .int x4), (5, .int x5), (6, .int x6), (7, .int x7), (8, .long v_2), (10, .int x10), (11, .int x11)]) [1, 2, 3, 4, 5, 6, 7, 8, 0, 9, 10] dX12_seriesOf_48 (by decide) rfl ?_
      refine aw_aload_n 0 dX12_seriesOf_50 rfl rfl ?_
      refine aw_iload_n 2 dX12_seriesOf_51 rfl rfl ?_
      refine aw_iload_n 3 dX12_seriesOf_52 rfl rfl ?_
      refine aw_iload 9 dX12_seriesOf_53 rfl ?_
      refine aw_callVO_I (c12_fateOf s_1 x2 x3 x10) (io_12 (by decide)) ci_12 (by decide) mk_12_fateOf w_1969 w_107 w_1967 rfl rfl (Nat.le_of_ble_eq_true rfl) dX12_seriesOf_55 (fun v_3 => ?_)
      refine aw_if_ne 72 dX12_seriesOf_58 (by decide) ?_ ?_
      · exact c12_seriesOf_p72 x1 x2 x3 x4 x5 x6 x7 kx ih s_1 v_2 x10 x11
      · refine aw_bipush 20 dX12_seriesOf_61 (by decide) ?_
        refine aw_iload 9 dX12_seriesOf_63 rfl ?_
        refine aw_iconst 1 dX12_seriesOf_65 (by decide) ?_
        refine aw_iadd dX12_seriesOf_66 ?_
        refine aw_min w_2035 w_863 w_159 w_864 (Nat.le_of_ble_eq_true rfl) dX12_seriesOf_67 ?_
        refine aw_bnd_int (fun v_4 => ?_)
        refine aw_istore (ls' := [(0, .ref (ad 12 0 0)), (1, .int x1), (2, .int x2), (3, .int x3), (4, .int x4), (5, .int x5), (6, .int x6), (7, .int x7), (8, .long v_2), (10, .int v_4), (11, .int x11)]) [1, 2, 3, 4, 5, 6, 7, 8, 9, 0, 10] dX12_seriesOf_70 (by decide) rfl ?_
        exact c12_seriesOf_p72 x1 x2 x3 x4 x5 x6 x7 kx ih s_1 v_2 v_4 x11
def F12_seriesOf (σ : Mem) (x1 : Int32) (x2 : Int32) (x3 : Int32) (x4 : Int32) (x5 : Int32) (x6 : Int32) (x7 : Int32) : Option (Int64 × Mem) :=
  bd (F12_seriesOf_L9 x1 x2 x3 x4 x5 x6 x7 fuelK σ 0 0 1) fun r_5 s_6 => some (r_5, s_6)
set_option maxRecDepth 20000 in
theorem c12_seriesOf {l : Launch} {D : va_G} {ad : Nat → Nat → Nat → Nat} {cid : Nat → Nat → Nat → ClassId} (σ : Mem) (x1 : Int32) (x2 : Int32) (x3 : Int32) (x4 : Int32) (x5 : Int32) (x6 : Int32) (x7 : Int32) : AMF (XM l D ad cid) M12_seriesOf 5 eL [.ref (ad 12 0 0), .int x1, .int x2, .int x3, .int x4, .int x5, .int x6, .int x7] σ (F12_seriesOf σ x1 x2 x3 x4 x5 x6 x7) := by
  refine AM.ofW (by decide +kernel) (Nat.le_of_ble_eq_true rfl) (ls := [(0, .ref (ad 12 0 0)), (1, .int x1), (2, .int x2), (3, .int x3), (4, .int x4), (5, .int x5), (6, .int x6), (7, .int x7)]) rfl ?_
  refine aw_entry ?_
  unfold F12_seriesOf
  refine aw_lconst 0 dX12_seriesOf_0 (by decide) ?_
  refine aw_lstore (ls' := [(0, .ref (ad 12 0 0)), (1, .int x1), (2, .int x2), (3, .int x3), (4, .int x4), (5, .int x5), (6, .int x6), (7, .int x7), (8, .long 0)]) [1, 2, 3, 4, 5, 6, 7, 8, 0] dX12_seriesOf_1 (by decide) rfl ?_
  refine aw_iconst 0 dX12_seriesOf_3 (by decide) ?_
  refine aw_istore (ls' := [(0, .ref (ad 12 0 0)), (1, .int x1), (2, .int x2), (3, .int x3), (4, .int x4), (5, .int x5), (6, .int x6), (7, .int x7), (8, .long 0), (10, .int 0)]) [1, 2, 3, 4, 5, 6, 7, 8, 9, 0] dX12_seriesOf_4 (by decide) rfl ?_
  refine aw_iconst 1 dX12_seriesOf_6 (by decide) ?_
  refine aw_istore (ls' := [(0, .ref (ad 12 0 0)), (1, .int x1), (2, .int x2), (3, .int x3), (4, .int x4), (5, .int x5), (6, .int x6), (7, .int x7), (8, .long 0), (10, .int 0), (11, .int 1)]) [1, 2, 3, 4, 5, 6, 7, 8, 9, 10, 0] dX12_seriesOf_7 (by decide) rfl ?_
  refine aw_assocW ?_
  refine c12_seriesOf_L9 x1 x2 x3 x4 x5 x6 x7 (fun r_5 s_6 => ?_) fuelK σ 0 0 1
  refine aw_lload 0 dX12_seriesOf_89 rfl ?_
  exact aw_lreturn rfl dX12_seriesOf_91
def F12_series (σ : Mem) (x1 : Int32) (x2 : Int32) (x3 : Int32) (x4 : Int32) (x5 : Int32) (x6 : Int32) (x7 : Int32) : Option (Bool × Mem) :=
  bnd (sI σ 12 0 0 1 0) fun s_1 => bnd (sI s_1 12 0 0 0 0) fun s_2 => (F12_isShot s_2 x1 x2).bind fun v_3 => if v_3 = true then ((ald 3000 (gI s_2 12 0 5) (53 + x1)).bind fun v_4 => if (F12_isPuffing x3 v_4) = true then (if (F12_isAim x4 x5) = true then (if (F12_isIn (Int32.toInt64 x6) 1 30) = true then (if (F12_isIn (Int32.toInt64 x7) 1 30) = true then (bd (F12_seriesOf s_2 x1 x2 x3 x4 x5 x6 x7) fun v_11 s_12 => bd (F12_fraction s_12 v_11 18) fun v_13 s_14 => some (v_13, s_14)) else (bd (F12_no s_2 5) fun v_15 s_16 => some (v_15, s_16))) else (bd (F12_no s_2 5) fun v_9 s_10 => some (v_9, s_10))) else (bd (F12_no s_2 5) fun v_7 s_8 => some (v_7, s_8))) else (bd (F12_no s_2 5) fun v_5 s_6 => some (v_5, s_6))) else (bd (F12_no s_2 2) fun v_17 s_18 => some (v_17, s_18))
set_option maxRecDepth 20000 in
theorem c12_series {l : Launch} {D : va_G} {ad : Nat → Nat → Nat → Nat} {cid : Nat → Nat → Nat → ClassId} (σ : Mem) (x1 : Int32) (x2 : Int32) (x3 : Int32) (x4 : Int32) (x5 : Int32) (x6 : Int32) (x7 : Int32) : AMF (XM l D ad cid) M12_series 6 eB [.ref (ad 12 0 0), .int x1, .int x2, .int x3, .int x4, .int x5, .int x6, .int x7] σ (F12_series σ x1 x2 x3 x4 x5 x6 x7) := by
  refine AM.ofW (by decide +kernel) (Nat.le_of_ble_eq_true rfl) (ls := [(0, .ref (ad 12 0 0)), (1, .int x1), (2, .int x2), (3, .int x3), (4, .int x4), (5, .int x5), (6, .int x6), (7, .int x7)]) rfl ?_
  refine aw_entry ?_
  unfold F12_series
  refine aw_aload_n 0 dX12_series_0 rfl rfl ?_
  refine aw_iconst 0 dX12_series_1 (by decide) ?_
  refine aw_putI (fs_12_1 (by decide)) ci_12 (by decide) rfl rfl w_1457 dX12_series_2 ?_
  refine aw_bndM (fun s_1 => ?_)
  refine aw_aload_n 0 dX12_series_5 rfl rfl ?_
  refine aw_iconst 0 dX12_series_6 (by decide) ?_
  refine aw_putI (fs_12_0 (by decide)) ci_12 (by decide) rfl rfl w_1456 dX12_series_7 ?_
  refine aw_bndM (fun s_2 => ?_)
  refine aw_aload_n 0 dX12_series_10 rfl rfl ?_
  refine aw_iload_n 1 dX12_series_11 rfl rfl ?_
  refine aw_iload_n 2 dX12_series_12 rfl rfl ?_
  refine aw_callVO_B (c12_isShot s_2 x1 x2) (io_12 (by decide)) ci_12 (by decide) mk_12_isShot w_2042 w_115 w_2040 rfl rfl (Nat.le_of_ble_eq_true rfl) dX12_series_13 (fun v_3 => ?_)
  refine aw_bif_ne 25 dX12_series_16 (by decide) ?_ ?_
  · refine aw_iload_n 3 dX12_series_25 rfl rfl ?_
    refine aw_aload_n 0 dX12_series_26 rfl rfl ?_
    refine aw_getf (fg_12_20 (by decide)) ci_12 (by decide) w_1476 dX12_series_27 ?_
    refine aw_bipush 53 dX12_series_30 (by decide) ?_
    refine aw_iload_n 1 dX12_series_32 rfl rfl ?_
    refine aw_iadd dX12_series_33 ?_
    refine aw_iaload (ar_12_5 (by decide)) dX12_series_34 (fun v_4 => ?_)
    refine aw_callST_B (c12_isPuffing s_2 x3 v_4) (by decide) mk_12_isPuffing w_1961 w_1960 rfl rfl (Nat.le_of_ble_eq_true rfl) dX12_series_35 ?_
    refine aw_bif_eq 77 dX12_series_38 (by decide) ?_ ?_
    · refine aw_aload_n 0 dX12_series_77 rfl rfl ?_
      refine aw_iconst 5 dX12_series_78 (by decide) ?_
      refine aw_callVW_B (c12_no s_2 5) (io_12 (by decide)) ci_12 (by decide) mk_12_no w_1658 w_49 w_1656 rfl rfl (Nat.le_of_ble_eq_true rfl) dX12_series_79 (fun v_5 s_6 => ?_)
      exact aw_zreturn (b := v_5) rfl rfl dX12_series_82
    · refine aw_iload 4 dX12_series_41 rfl ?_
      refine aw_iload 5 dX12_series_43 rfl ?_
      refine aw_callST_B (c12_isAim s_2 x4 x5) (by decide) mk_12_isAim w_1994 w_1993 rfl rfl (Nat.le_of_ble_eq_true rfl) dX12_series_45 ?_
      refine aw_bif_eq 77 dX12_series_48 (by decide) ?_ ?_
      · refine aw_aload_n 0 dX12_series_77 rfl rfl ?_
        refine aw_iconst 5 dX12_series_78 (by decide) ?_
        refine aw_callVW_B (c12_no s_2 5) (io_12 (by decide)) ci_12 (by decide) mk_12_no w_1658 w_49 w_1656 rfl rfl (Nat.le_of_ble_eq_true rfl) dX12_series_79 (fun v_7 s_8 => ?_)
        exact aw_zreturn (b := v_7) rfl rfl dX12_series_82
      · refine aw_iload 6 dX12_series_51 rfl ?_
        refine aw_i2l dX12_series_53 ?_
        refine aw_lconst 1 dX12_series_54 (by decide) ?_
        refine aw_ldc2 w_2089 dX12_series_55 ?_
        refine aw_callST_B (c12_isIn s_2 (Int32.toInt64 x6) 1 30) (by decide) mk_12_isIn w_1752 w_1751 rfl rfl (Nat.le_of_ble_eq_true rfl) dX12_series_58 ?_
        refine aw_bif_eq 77 dX12_series_61 (by decide) ?_ ?_
        · refine aw_aload_n 0 dX12_series_77 rfl rfl ?_
          refine aw_iconst 5 dX12_series_78 (by decide) ?_
          refine aw_callVW_B (c12_no s_2 5) (io_12 (by decide)) ci_12 (by decide) mk_12_no w_1658 w_49 w_1656 rfl rfl (Nat.le_of_ble_eq_true rfl) dX12_series_79 (fun v_9 s_10 => ?_)
          exact aw_zreturn (b := v_9) rfl rfl dX12_series_82
        · refine aw_iload 7 dX12_series_64 rfl ?_
          refine aw_i2l dX12_series_66 ?_
          refine aw_lconst 1 dX12_series_67 (by decide) ?_
          refine aw_ldc2 w_2089 dX12_series_68 ?_
          refine aw_callST_B (c12_isIn s_2 (Int32.toInt64 x7) 1 30) (by decide) mk_12_isIn w_1752 w_1751 rfl rfl (Nat.le_of_ble_eq_true rfl) dX12_series_71 ?_
          refine aw_bif_ne 83 dX12_series_74 (by decide) ?_ ?_
          · refine aw_aload_n 0 dX12_series_83 rfl rfl ?_
            refine aw_aload_n 0 dX12_series_84 rfl rfl ?_
            refine aw_iload_n 1 dX12_series_85 rfl rfl ?_
            refine aw_iload_n 2 dX12_series_86 rfl rfl ?_
            refine aw_iload_n 3 dX12_series_87 rfl rfl ?_
            refine aw_iload 4 dX12_series_88 rfl ?_
            refine aw_iload 5 dX12_series_90 rfl ?_
            refine aw_iload 6 dX12_series_92 rfl ?_
            refine aw_iload 7 dX12_series_94 rfl ?_
            refine aw_callVW_L (c12_seriesOf s_2 x1 x2 x3 x4 x5 x6 x7) (io_12 (by decide)) ci_12 (by decide) mk_12_seriesOf w_2092 w_120 w_2090 rfl rfl (Nat.le_of_ble_eq_true rfl) dX12_series_96 (fun v_11 s_12 => ?_)
            refine aw_ldc2 w_1835 dX12_series_99 ?_
            refine aw_callVW_B (c12_fraction s_12 v_11 18) (io_12 (by decide)) ci_12 (by decide) mk_12_fraction w_2050 w_117 w_2048 rfl rfl (Nat.le_of_ble_eq_true rfl) dX12_series_102 (fun v_13 s_14 => ?_)
            exact aw_zreturn (b := v_13) rfl rfl dX12_series_105
          · refine aw_aload_n 0 dX12_series_77 rfl rfl ?_
            refine aw_iconst 5 dX12_series_78 (by decide) ?_
            refine aw_callVW_B (c12_no s_2 5) (io_12 (by decide)) ci_12 (by decide) mk_12_no w_1658 w_49 w_1656 rfl rfl (Nat.le_of_ble_eq_true rfl) dX12_series_79 (fun v_15 s_16 => ?_)
            exact aw_zreturn (b := v_15) rfl rfl dX12_series_82
  · refine aw_aload_n 0 dX12_series_19 rfl rfl ?_
    refine aw_iconst 2 dX12_series_20 (by decide) ?_
    refine aw_callVW_B (c12_no s_2 2) (io_12 (by decide)) ci_12 (by decide) mk_12_no w_1658 w_49 w_1656 rfl rfl (Nat.le_of_ble_eq_true rfl) dX12_series_21 (fun v_17 s_18 => ?_)
    exact aw_zreturn (b := v_17) rfl rfl dX12_series_24
def F12_wipeEvery_L82 (x1 : Int32) (x2 : Int32) (x3 : Int32) (x4 : Int32) (x5 : Int32) : Nat → Mem → Int32 → Int64 → Int32 → Option ((Int32) × Mem)
  | 0 => fun _ _ _ _ => none
  | n + 1 => fun σ x6 y7 x9 =>
    if 10 ≤ x9 then (some (x6, σ)) else (bd (F12_seriesOf σ x1 x2 x3 0 0 x4 x9) fun v_9 s_10 => if x9 = 0 then none else bnd (((16 : Int64) * v_9) - (((18 : Int64) * (Int32.toInt64 x5)) * (Int32.toInt64 (x4 / x9)))) fun v_11 => if x6 ≤ 0 then ((F12_wipeEvery_L82 x1 x2 x3 x4 x5 n) s_10 x9 v_11 (x9 + 1)) else (if y7 < v_11 then ((F12_wipeEvery_L82 x1 x2 x3 x4 x5 n) s_10 x9 v_11 (x9 + 1)) else ((F12_wipeEvery_L82 x1 x2 x3 x4 x5 n) s_10 x6 y7 (x9 + 1))))
set_option maxRecDepth 20000 in
theorem c12_wipeEvery_L82 {l : Launch} {D : va_G} {ad : Nat → Nat → Nat → Nat} {cid : Nat → Nat → Nat → ClassId} {α : Type} {emb : α → Option Value} (x1 : Int32) (x2 : Int32) (x3 : Int32) (x4 : Int32) (x5 : Int32) {G : Int32 → Mem → Option (α × Mem)} (kx : ∀ r σ, AW (XM l D ad cid) M12_wipeEvery 6 emb [(6, .int r)] 153 [] σ (G r σ)) : ∀ (n : Nat) (σ : Mem) (x6 : Int32) (y7 : Int64) (x9 : Int32), AW (XM l D ad cid) M12_wipeEvery 6 emb [(0, .ref (ad 12 0 0)), (1, .int x1), (2, .int x2), (3, .int x3), (4, .int x4), (5, .int x5), (6, .int x6), (7, .long y7), (9, .int x9)] 82 [] σ (bd (F12_wipeEvery_L82 x1 x2 x3 x4 x5 n σ x6 y7 x9) G) := by
  intro n
  induction n with
  | zero => intros; exact aw_none
  | succ n ih =>
    intro σ x6 y7 x9
    refine aw_bdB ?_
    rw [F12_wipeEvery_L82.eq_2]
    refine aw_iload 8 dX12_wipeEvery_82 rfl ?_
    refine aw_bipush 10 dX12_wipeEvery_84 (by decide) ?_
    refine aw_icmp_ge 153 dX12_wipeEvery_86 (by decide) ?_ ?_
    · refine aw_ls (ls' := [(6, .int x6)]) [6] rfl ?_
      exact kx x6 σ
    · refine aw_ldc2 w_2099 dX12_wipeEvery_89 ?_
      refine aw_aload_n 0 dX12_wipeEvery_92 rfl rfl ?_
      refine aw_iload_n 1 dX12_wipeEvery_93 rfl rfl ?_
      refine aw_iload_n 2 dX12_wipeEvery_94 rfl rfl ?_
      refine aw_iload_n 3 dX12_wipeEvery_95 rfl rfl ?_
      refine aw_iconst 0 dX12_wipeEvery_96 (by decide) ?_
      refine aw_iconst 0 dX12_wipeEvery_97 (by decide) ?_
      refine aw_iload 4 dX12_wipeEvery_98 rfl ?_
      refine aw_iload 8 dX12_wipeEvery_100 rfl ?_
      refine aw_callVW_L (c12_seriesOf σ x1 x2 x3 0 0 x4 x9) (io_12 (by decide)) ci_12 (by decide) mk_12_seriesOf w_2092 w_120 w_2090 rfl rfl (Nat.le_of_ble_eq_true rfl) dX12_wipeEvery_102 (fun v_9 s_10 => ?_)
      refine aw_lmul dX12_wipeEvery_105 ?_
      refine aw_ldc2 w_1835 dX12_wipeEvery_106 ?_
      refine aw_iload 5 dX12_wipeEvery_109 rfl ?_
      refine aw_i2l dX12_wipeEvery_111 ?_
      refine aw_lmul dX12_wipeEvery_112 ?_
      refine aw_iload 4 dX12_wipeEvery_113 rfl ?_
      refine aw_iload 8 dX12_wipeEvery_115 rfl ?_
      refine aw_idiv dX12_wipeEvery_117 ?_
      refine aw_i2l dX12_wipeEvery_118 ?_
      refine aw_lmul dX12_wipeEvery_119 ?_
      refine aw_lsub dX12_wipeEvery_120 ?_
      refine aw_bnd_long (fun v_11 => ?_)
      refine aw_lstore (ls' := [(0, .ref (ad 12 0 0)), (1, .int x1), (2, .int x2), (3, .int x3), (4, .int x4), (5, .int x5), (6, .int x6), (7, .long y7), (9, .int x9), (10, .long v_11)]) [1, 2, 3, 4, 5, 6, 7, 8, 9, 0] dX12_wipeEvery_121 (by decide) rfl ?_
      refine aw_iload 6 dX12_wipeEvery_123 rfl ?_
      refine aw_if_le 139 dX12_wipeEvery_125 (by decide) ?_ ?_
      · refine aw_iload 8 dX12_wipeEvery_139 rfl ?_
        refine aw_istore (ls' := [(0, .ref (ad 12 0 0)), (1, .int x1), (2, .int x2), (3, .int x3), (4, .int x4), (5, .int x5), (6, .int x9), (9, .int x9), (10, .long v_11)]) [1, 2, 3, 4, 5, 6, 0, 8, 9] dX12_wipeEvery_141 (by decide) rfl ?_
        refine aw_lload 8 dX12_wipeEvery_143 rfl ?_
        refine aw_lstore (ls' := [(0, .ref (ad 12 0 0)), (1, .int x1), (2, .int x2), (3, .int x3), (4, .int x4), (5, .int x5), (6, .int x9), (7, .long v_11), (9, .int x9)]) [1, 2, 3, 4, 5, 6, 7, 0, 8] dX12_wipeEvery_145 (by decide) rfl ?_
        refine aw_iinc (ls' := [(0, .ref (ad 12 0 0)), (1, .int x1), (2, .int x2), (3, .int x3), (4, .int x4), (5, .int x5), (6, .int x9), (7, .long v_11), (9, .int (x9 + 1))]) (x9 + 1) 8 [1, 2, 3, 4, 5, 6, 7, 8, 0] dX12_wipeEvery_147 rfl (by rfl) (by decide) rfl ?_
        refine aw_goto 82 dX12_wipeEvery_150 (by decide) ?_
        exact ih s_10 x9 v_11 (x9 + 1)
      · refine aw_lload 9 dX12_wipeEvery_128 rfl ?_
        refine aw_lload 7 dX12_wipeEvery_130 rfl ?_
        refine aw_lcmp dX12_wipeEvery_132 ?_
        refine aw_lif_gt 139 dX12_wipeEvery_133 (by decide) ?_ ?_
        · refine aw_iload 8 dX12_wipeEvery_139 rfl ?_
          refine aw_istore (ls' := [(0, .ref (ad 12 0 0)), (1, .int x1), (2, .int x2), (3, .int x3), (4, .int x4), (5, .int x5), (6, .int x9), (9, .int x9), (10, .long v_11)]) [1, 2, 3, 4, 5, 6, 0, 8, 9] dX12_wipeEvery_141 (by decide) rfl ?_
          refine aw_lload 8 dX12_wipeEvery_143 rfl ?_
          refine aw_lstore (ls' := [(0, .ref (ad 12 0 0)), (1, .int x1), (2, .int x2), (3, .int x3), (4, .int x4), (5, .int x5), (6, .int x9), (7, .long v_11), (9, .int x9)]) [1, 2, 3, 4, 5, 6, 7, 0, 8] dX12_wipeEvery_145 (by decide) rfl ?_
          refine aw_iinc (ls' := [(0, .ref (ad 12 0 0)), (1, .int x1), (2, .int x2), (3, .int x3), (4, .int x4), (5, .int x5), (6, .int x9), (7, .long v_11), (9, .int (x9 + 1))]) (x9 + 1) 8 [1, 2, 3, 4, 5, 6, 7, 8, 0] dX12_wipeEvery_147 rfl (by rfl) (by decide) rfl ?_
          refine aw_goto 82 dX12_wipeEvery_150 (by decide) ?_
          exact ih s_10 x9 v_11 (x9 + 1)
        · refine aw_goto 147 dX12_wipeEvery_136 (by decide) ?_
          refine aw_iinc (ls' := [(0, .ref (ad 12 0 0)), (1, .int x1), (2, .int x2), (3, .int x3), (4, .int x4), (5, .int x5), (6, .int x6), (7, .long y7), (9, .int (x9 + 1))]) (x9 + 1) 8 [1, 2, 3, 4, 5, 6, 7, 8, 0] dX12_wipeEvery_147 rfl (by rfl) (by decide) rfl ?_
          refine aw_goto 82 dX12_wipeEvery_150 (by decide) ?_
          exact ih s_10 x6 y7 (x9 + 1)
def F12_wipeEvery (σ : Mem) (x1 : Int32) (x2 : Int32) (x3 : Int32) (x4 : Int32) (x5 : Int32) : Option (Int32 × Mem) :=
  bnd (sI σ 12 0 0 1 0) fun s_1 => bnd (sI s_1 12 0 0 0 0) fun s_2 => (F12_isShot s_2 x1 x2).bind fun v_3 => if v_3 = true then ((ald 3000 (gI s_2 12 0 5) (53 + x1)).bind fun v_4 => if (F12_isPuffing x3 v_4) = true then (if (F12_isIn (Int32.toInt64 x4) 1 30) = true then (if (F12_isIn (Int32.toInt64 x5) 0 99) = true then (bd (F12_wipeEvery_L82 x1 x2 x3 x4 x5 fuelK s_2 0 0 1) fun r_12 s_13 => some (r_12, s_13)) else (bd (F12_refuse s_2 5) fun v_14 s_15 => some (v_14, s_15))) else (bd (F12_refuse s_2 5) fun v_7 s_8 => some (v_7, s_8))) else (bd (F12_refuse s_2 5) fun v_5 s_6 => some (v_5, s_6))) else (bd (F12_refuse s_2 2) fun v_16 s_17 => some (v_16, s_17))
set_option maxRecDepth 20000 in
theorem c12_wipeEvery {l : Launch} {D : va_G} {ad : Nat → Nat → Nat → Nat} {cid : Nat → Nat → Nat → ClassId} (σ : Mem) (x1 : Int32) (x2 : Int32) (x3 : Int32) (x4 : Int32) (x5 : Int32) : AMF (XM l D ad cid) M12_wipeEvery 6 eI [.ref (ad 12 0 0), .int x1, .int x2, .int x3, .int x4, .int x5] σ (F12_wipeEvery σ x1 x2 x3 x4 x5) := by
  refine AM.ofW (by decide +kernel) (Nat.le_of_ble_eq_true rfl) (ls := [(0, .ref (ad 12 0 0)), (1, .int x1), (2, .int x2), (3, .int x3), (4, .int x4), (5, .int x5)]) rfl ?_
  refine aw_entry ?_
  unfold F12_wipeEvery
  refine aw_aload_n 0 dX12_wipeEvery_0 rfl rfl ?_
  refine aw_iconst 0 dX12_wipeEvery_1 (by decide) ?_
  refine aw_putI (fs_12_1 (by decide)) ci_12 (by decide) rfl rfl w_1457 dX12_wipeEvery_2 ?_
  refine aw_bndM (fun s_1 => ?_)
  refine aw_aload_n 0 dX12_wipeEvery_5 rfl rfl ?_
  refine aw_iconst 0 dX12_wipeEvery_6 (by decide) ?_
  refine aw_putI (fs_12_0 (by decide)) ci_12 (by decide) rfl rfl w_1456 dX12_wipeEvery_7 ?_
  refine aw_bndM (fun s_2 => ?_)
  refine aw_aload_n 0 dX12_wipeEvery_10 rfl rfl ?_
  refine aw_iload_n 1 dX12_wipeEvery_11 rfl rfl ?_
  refine aw_iload_n 2 dX12_wipeEvery_12 rfl rfl ?_
  refine aw_callVO_B (c12_isShot s_2 x1 x2) (io_12 (by decide)) ci_12 (by decide) mk_12_isShot w_2042 w_115 w_2040 rfl rfl (Nat.le_of_ble_eq_true rfl) dX12_wipeEvery_13 (fun v_3 => ?_)
  refine aw_bif_ne 25 dX12_wipeEvery_16 (by decide) ?_ ?_
  · refine aw_iload_n 3 dX12_wipeEvery_25 rfl rfl ?_
    refine aw_aload_n 0 dX12_wipeEvery_26 rfl rfl ?_
    refine aw_getf (fg_12_20 (by decide)) ci_12 (by decide) w_1476 dX12_wipeEvery_27 ?_
    refine aw_bipush 53 dX12_wipeEvery_30 (by decide) ?_
    refine aw_iload_n 1 dX12_wipeEvery_32 rfl rfl ?_
    refine aw_iadd dX12_wipeEvery_33 ?_
    refine aw_iaload (ar_12_5 (by decide)) dX12_wipeEvery_34 (fun v_4 => ?_)
    refine aw_callST_B (c12_isPuffing s_2 x3 v_4) (by decide) mk_12_isPuffing w_1961 w_1960 rfl rfl (Nat.le_of_ble_eq_true rfl) dX12_wipeEvery_35 ?_
    refine aw_bif_eq 67 dX12_wipeEvery_38 (by decide) ?_ ?_
    · refine aw_aload_n 0 dX12_wipeEvery_67 rfl rfl ?_
      refine aw_iconst 5 dX12_wipeEvery_68 (by decide) ?_
      refine aw_callVW_I (c12_refuse s_2 5) (io_12 (by decide)) ci_12 (by decide) mk_12_refuse w_1919 w_101 w_1917 rfl rfl (Nat.le_of_ble_eq_true rfl) dX12_wipeEvery_69 (fun v_5 s_6 => ?_)
      exact aw_ireturn rfl dX12_wipeEvery_72
    · refine aw_iload 4 dX12_wipeEvery_41 rfl ?_
      refine aw_i2l dX12_wipeEvery_43 ?_
      refine aw_lconst 1 dX12_wipeEvery_44 (by decide) ?_
      refine aw_ldc2 w_2089 dX12_wipeEvery_45 ?_
      refine aw_callST_B (c12_isIn s_2 (Int32.toInt64 x4) 1 30) (by decide) mk_12_isIn w_1752 w_1751 rfl rfl (Nat.le_of_ble_eq_true rfl) dX12_wipeEvery_48 ?_
      refine aw_bif_eq 67 dX12_wipeEvery_51 (by decide) ?_ ?_
      · refine aw_aload_n 0 dX12_wipeEvery_67 rfl rfl ?_
        refine aw_iconst 5 dX12_wipeEvery_68 (by decide) ?_
        refine aw_callVW_I (c12_refuse s_2 5) (io_12 (by decide)) ci_12 (by decide) mk_12_refuse w_1919 w_101 w_1917 rfl rfl (Nat.le_of_ble_eq_true rfl) dX12_wipeEvery_69 (fun v_7 s_8 => ?_)
        exact aw_ireturn rfl dX12_wipeEvery_72
      · refine aw_iload 5 dX12_wipeEvery_54 rfl ?_
        refine aw_i2l dX12_wipeEvery_56 ?_
        refine aw_lconst 0 dX12_wipeEvery_57 (by decide) ?_
        refine aw_ldc2 w_2098 dX12_wipeEvery_58 ?_
        refine aw_callST_B (c12_isIn s_2 (Int32.toInt64 x5) 0 99) (by decide) mk_12_isIn w_1752 w_1751 rfl rfl (Nat.le_of_ble_eq_true rfl) dX12_wipeEvery_61 ?_
        refine aw_bif_ne 73 dX12_wipeEvery_64 (by decide) ?_ ?_
        · refine aw_iconst 0 dX12_wipeEvery_73 (by decide) ?_
          refine aw_istore (ls' := [(0, .ref (ad 12 0 0)), (1, .int x1), (2, .int x2), (3, .int x3), (4, .int x4), (5, .int x5), (6, .int 0)]) [1, 2, 3, 4, 5, 6, 0] dX12_wipeEvery_74 (by decide) rfl ?_
          refine aw_lconst 0 dX12_wipeEvery_76 (by decide) ?_
          refine aw_lstore (ls' := [(0, .ref (ad 12 0 0)), (1, .int x1), (2, .int x2), (3, .int x3), (4, .int x4), (5, .int x5), (6, .int 0), (7, .long 0)]) [1, 2, 3, 4, 5, 6, 7, 0] dX12_wipeEvery_77 (by decide) rfl ?_
          refine aw_iconst 1 dX12_wipeEvery_79 (by decide) ?_
          refine aw_istore (ls' := [(0, .ref (ad 12 0 0)), (1, .int x1), (2, .int x2), (3, .int x3), (4, .int x4), (5, .int x5), (6, .int 0), (7, .long 0), (9, .int 1)]) [1, 2, 3, 4, 5, 6, 7, 8, 0] dX12_wipeEvery_80 (by decide) rfl ?_
          refine aw_assocW ?_
          refine c12_wipeEvery_L82 x1 x2 x3 x4 x5 (fun r_12 s_13 => ?_) fuelK s_2 0 0 1
          refine aw_iload 0 dX12_wipeEvery_153 rfl ?_
          exact aw_ireturn rfl dX12_wipeEvery_155
        · refine aw_aload_n 0 dX12_wipeEvery_67 rfl rfl ?_
          refine aw_iconst 5 dX12_wipeEvery_68 (by decide) ?_
          refine aw_callVW_I (c12_refuse s_2 5) (io_12 (by decide)) ci_12 (by decide) mk_12_refuse w_1919 w_101 w_1917 rfl rfl (Nat.le_of_ble_eq_true rfl) dX12_wipeEvery_69 (fun v_14 s_15 => ?_)
          exact aw_ireturn rfl dX12_wipeEvery_72
  · refine aw_aload_n 0 dX12_wipeEvery_19 rfl rfl ?_
    refine aw_iconst 2 dX12_wipeEvery_20 (by decide) ?_
    refine aw_callVW_I (c12_refuse s_2 2) (io_12 (by decide)) ci_12 (by decide) mk_12_refuse w_1919 w_101 w_1917 rfl rfl (Nat.le_of_ble_eq_true rfl) dX12_wipeEvery_21 (fun v_16 s_17 => ?_)
    exact aw_ireturn rfl dX12_wipeEvery_24
def F12_sumUp_L22 (x3 : Int32) (a4 : Nat) (b4 : Nat) (c4 : Nat) (n4 : Nat) : Nat → Mem → Int32 → Option ((Unit) × Mem)
  | 0 => fun _ _ => none
  | n + 1 => fun σ x5 =>
    if 101 ≤ x5 then (some ((), σ)) else (if x5 = 0 then (chk n4 x5 <| bnd (sL σ a4 b4 c4 (Int32.toNatClampNeg x5) 1) fun s_4 => (F12_sumUp_L22 x3 a4 b4 c4 n4 n) s_4 (x5 + 1)) else (chk n4 x5 <| bnd (sL σ a4 b4 c4 (Int32.toNatClampNeg x5) 0) fun s_3 => (F12_sumUp_L22 x3 a4 b4 c4 n4 n) s_3 (x5 + 1)))
set_option maxRecDepth 20000 in
theorem c12_sumUp_L22 {l : Launch} {D : va_G} {ad : Nat → Nat → Nat → Nat} {cid : Nat → Nat → Nat → ClassId} {α : Type} {emb : α → Option Value} (x3 : Int32) (a4 : Nat) (b4 : Nat) (c4 : Nat) (n4 : Nat) (hn4 : IsL (XM l D ad cid) a4 b4 c4 n4) {G : Unit → Mem → Option (α × Mem)} (kx : ∀ r σ, AW (XM l D ad cid) M12_sumUp 5 emb [(0, .ref (ad 12 0 0)), (3, .int x3), (4, .ref (ad a4 b4 c4))] 50 [] σ (G r σ)) : ∀ (n : Nat) (σ : Mem) (x5 : Int32), AW (XM l D ad cid) M12_sumUp 5 emb [(0, .ref (ad 12 0 0)), (3, .int x3), (4, .ref (ad a4 b4 c4)), (5, .int x5)] 22 [] σ (bd (F12_sumUp_L22 x3 a4 b4 c4 n4 n σ x5) G) := by
  intro n
  induction n with
  | zero => intros; exact aw_none
  | succ n ih =>
    intro σ x5
    refine aw_bdB ?_
    rw [F12_sumUp_L22.eq_2]
    refine aw_iload 3 dX12_sumUp_22 rfl ?_
    refine aw_bipush 101 dX12_sumUp_24 (by decide) ?_
    refine aw_icmp_ge 50 dX12_sumUp_26 (by decide) ?_ ?_
    · refine aw_ls (ls' := [(0, .ref (ad 12 0 0)), (3, .int x3), (4, .ref (ad a4 b4 c4))]) [0, 1, 2] rfl ?_
      exact kx () σ
    · refine aw_aload 2 dX12_sumUp_29 rfl ?_
      refine aw_iload 3 dX12_sumUp_31 rfl ?_
      refine aw_iload 3 dX12_sumUp_33 rfl ?_
      refine aw_if_ne 42 dX12_sumUp_35 (by decide) ?_ ?_
      · refine aw_lconst 0 dX12_sumUp_42 (by decide) ?_
        refine aw_lastore hn4 dX12_sumUp_43 ?_
        refine aw_bndM (fun s_3 => ?_)
        refine aw_iinc (ls' := [(0, .ref (ad 12 0 0)), (3, .int x3), (4, .ref (ad a4 b4 c4)), (5, .int (x5 + 1))]) (x5 + 1) 3 [1, 2, 3, 0] dX12_sumUp_44 rfl (by rfl) (by decide) rfl ?_
        refine aw_goto 22 dX12_sumUp_47 (by decide) ?_
        exact ih s_3 (x5 + 1)
      · refine aw_lconst 1 dX12_sumUp_38 (by decide) ?_
        refine aw_goto 43 dX12_sumUp_39 (by decide) ?_
        refine aw_lastore hn4 dX12_sumUp_43 ?_
        refine aw_bndM (fun s_4 => ?_)
        refine aw_iinc (ls' := [(0, .ref (ad 12 0 0)), (3, .int x3), (4, .ref (ad a4 b4 c4)), (5, .int (x5 + 1))]) (x5 + 1) 3 [1, 2, 3, 0] dX12_sumUp_44 rfl (by rfl) (by decide) rfl ?_
        refine aw_goto 22 dX12_sumUp_47 (by decide) ?_
        exact ih s_4 (x5 + 1)
def F12_sumUp_L62 (x3 : Int32) (a4 : Nat) (b4 : Nat) (c4 : Nat) (n4 : Nat) (x5 : Int32) : Nat → Mem → Int32 → Option ((Unit) × Mem)
  | 0 => fun _ _ => none
  | n + 1 => fun σ x6 =>
    if 101 ≤ x6 then (some ((), σ)) else (chk 101 x6 <| bnd (sL σ 12 0 11 (Int32.toNatClampNeg x6) 0) fun s_7 => (F12_sumUp_L62 x3 a4 b4 c4 n4 x5 n) s_7 (x6 + 1))
set_option maxRecDepth 20000 in
theorem c12_sumUp_L62 {l : Launch} {D : va_G} {ad : Nat → Nat → Nat → Nat} {cid : Nat → Nat → Nat → ClassId} {α : Type} {emb : α → Option Value} (x3 : Int32) (a4 : Nat) (b4 : Nat) (c4 : Nat) (n4 : Nat) (hn4 : IsL (XM l D ad cid) a4 b4 c4 n4) (x5 : Int32) {G : Unit → Mem → Option (α × Mem)} (kx : ∀ r σ, AW (XM l D ad cid) M12_sumUp 5 emb [(0, .ref (ad 12 0 0)), (3, .int x3), (4, .ref (ad a4 b4 c4)), (5, .int x5)] 83 [] σ (G r σ)) : ∀ (n : Nat) (σ : Mem) (x6 : Int32), AW (XM l D ad cid) M12_sumUp 5 emb [(0, .ref (ad 12 0 0)), (3, .int x3), (4, .ref (ad a4 b4 c4)), (5, .int x5), (6, .int x6)] 62 [] σ (bd (F12_sumUp_L62 x3 a4 b4 c4 n4 x5 n σ x6) G) := by
  intro n
  induction n with
  | zero => intros; exact aw_none
  | succ n ih =>
    intro σ x6
    refine aw_bdB ?_
    rw [F12_sumUp_L62.eq_2]
    refine aw_iload 4 dX12_sumUp_62 rfl ?_
    refine aw_bipush 101 dX12_sumUp_64 (by decide) ?_
    refine aw_icmp_ge 83 dX12_sumUp_66 (by decide) ?_ ?_
    · refine aw_ls (ls' := [(0, .ref (ad 12 0 0)), (3, .int x3), (4, .ref (ad a4 b4 c4)), (5, .int x5)]) [0, 1, 2, 3] rfl ?_
      exact kx () σ
    · refine aw_aload_n 0 dX12_sumUp_69 rfl rfl ?_
      refine aw_getf (fg_12_39 (by decide)) ci_12 (by decide) w_1495 dX12_sumUp_70 ?_
      refine aw_iload 4 dX12_sumUp_73 rfl ?_
      refine aw_lconst 0 dX12_sumUp_75 (by decide) ?_
      refine aw_lastore (ar_12_11 (by decide)) dX12_sumUp_76 ?_
      refine aw_bndM (fun s_7 => ?_)
      refine aw_iinc (ls' := [(0, .ref (ad 12 0 0)), (3, .int x3), (4, .ref (ad a4 b4 c4)), (5, .int x5), (6, .int (x6 + 1))]) (x6 + 1) 4 [1, 2, 3, 4, 0] dX12_sumUp_77 rfl (by rfl) (by decide) rfl ?_
      refine aw_goto 62 dX12_sumUp_80 (by decide) ?_
      exact ih s_7 (x6 + 1)
def F12_sumUp_L99 (x3 : Int32) (a4 : Nat) (b4 : Nat) (c4 : Nat) (n4 : Nat) (x5 : Int32) (x6 : Int32) : Nat → Mem → Int32 → Option ((Unit) × Mem)
  | 0 => fun _ _ => none
  | n + 1 => fun σ x7 =>
    if 21 ≤ x7 then (some ((), σ)) else ((ald 101 (gL σ 12 0 11) (x6 + x7)).bind fun v_10 => (ald n4 (gL σ a4 b4 c4) x6).bind fun v_11 => (ald 21 (gI σ 12 0 8) x7).bind fun v_12 => chk 101 (x6 + x7) <| bnd (sL σ 12 0 11 (Int32.toNatClampNeg (x6 + x7)) (v_10 + (v_11 * (Int32.toInt64 v_12)))) fun s_13 => (F12_sumUp_L99 x3 a4 b4 c4 n4 x5 x6 n) s_13 (x7 + 1))
set_option maxRecDepth 20000 in
theorem c12_sumUp_L99 {l : Launch} {D : va_G} {ad : Nat → Nat → Nat → Nat} {cid : Nat → Nat → Nat → ClassId} {α : Type} {emb : α → Option Value} (x3 : Int32) (a4 : Nat) (b4 : Nat) (c4 : Nat) (n4 : Nat) (hn4 : IsL (XM l D ad cid) a4 b4 c4 n4) (x5 : Int32) (x6 : Int32) {G : Unit → Mem → Option (α × Mem)} (kx : ∀ r σ, AW (XM l D ad cid) M12_sumUp 5 emb [(0, .ref (ad 12 0 0)), (3, .int x3), (4, .ref (ad a4 b4 c4)), (5, .int x5), (6, .int x6)] 139 [] σ (G r σ)) : ∀ (n : Nat) (σ : Mem) (x7 : Int32), AW (XM l D ad cid) M12_sumUp 5 emb [(0, .ref (ad 12 0 0)), (3, .int x3), (4, .ref (ad a4 b4 c4)), (5, .int x5), (6, .int x6), (7, .int x7)] 99 [] σ (bd (F12_sumUp_L99 x3 a4 b4 c4 n4 x5 x6 n σ x7) G) := by
  intro n
  induction n with
  | zero => intros; exact aw_none
  | succ n ih =>
    intro σ x7
    refine aw_bdB ?_
    rw [F12_sumUp_L99.eq_2]
    refine aw_iload 5 dX12_sumUp_99 rfl ?_
    refine aw_bipush 21 dX12_sumUp_101 (by decide) ?_
    refine aw_icmp_ge 139 dX12_sumUp_103 (by decide) ?_ ?_
    · refine aw_ls (ls' := [(0, .ref (ad 12 0 0)), (3, .int x3), (4, .ref (ad a4 b4 c4)), (5, .int x5), (6, .int x6)]) [0, 1, 2, 3, 4] rfl ?_
      exact kx () σ
    · refine aw_aload_n 0 dX12_sumUp_106 rfl rfl ?_
      refine aw_getf (fg_12_39 (by decide)) ci_12 (by decide) w_1495 dX12_sumUp_107 ?_
      refine aw_iload 4 dX12_sumUp_110 rfl ?_
      refine aw_iload 5 dX12_sumUp_112 rfl ?_
      refine aw_iadd dX12_sumUp_114 ?_
      refine aw_dup2_11 dX12_sumUp_115 rfl rfl ?_
      refine aw_laload (ar_12_11 (by decide)) dX12_sumUp_116 (fun v_10 => ?_)
      refine aw_aload 2 dX12_sumUp_117 rfl ?_
      refine aw_iload 4 dX12_sumUp_119 rfl ?_
      refine aw_laload hn4 dX12_sumUp_121 (fun v_11 => ?_)
      refine aw_aload_n 0 dX12_sumUp_122 rfl rfl ?_
      refine aw_getf (fg_12_32 (by decide)) ci_12 (by decide) w_1488 dX12_sumUp_123 ?_
      refine aw_iload 5 dX12_sumUp_126 rfl ?_
      refine aw_iaload (ar_12_8 (by decide)) dX12_sumUp_128 (fun v_12 => ?_)
      refine aw_i2l dX12_sumUp_129 ?_
      refine aw_lmul dX12_sumUp_130 ?_
      refine aw_ladd dX12_sumUp_131 ?_
      refine aw_lastore (ar_12_11 (by decide)) dX12_sumUp_132 ?_
      refine aw_bndM (fun s_13 => ?_)
      refine aw_iinc (ls' := [(0, .ref (ad 12 0 0)), (3, .int x3), (4, .ref (ad a4 b4 c4)), (5, .int x5), (6, .int x6), (7, .int (x7 + 1))]) (x7 + 1) 5 [1, 2, 3, 4, 5, 0] dX12_sumUp_133 rfl (by rfl) (by decide) rfl ?_
      refine aw_goto 99 dX12_sumUp_136 (by decide) ?_
      exact ih s_13 (x7 + 1)
def F12_sumUp_L86 (x3 : Int32) (a4 : Nat) (b4 : Nat) (c4 : Nat) (n4 : Nat) (x5 : Int32) : Nat → Mem → Int32 → Option ((Unit) × Mem)
  | 0 => fun _ _ => none
  | n + 1 => fun σ x6 =>
    if (20 * x5) < x6 then (some ((), σ)) else (bd (F12_sumUp_L99 x3 a4 b4 c4 n4 x5 x6 fuelK σ 0) fun r_14 s_15 => (F12_sumUp_L86 x3 a4 b4 c4 n4 x5 n) s_15 (x6 + 1))
set_option maxRecDepth 20000 in
theorem c12_sumUp_L86 {l : Launch} {D : va_G} {ad : Nat → Nat → Nat → Nat} {cid : Nat → Nat → Nat → ClassId} {α : Type} {emb : α → Option Value} (x3 : Int32) (a4 : Nat) (b4 : Nat) (c4 : Nat) (n4 : Nat) (hn4 : IsL (XM l D ad cid) a4 b4 c4 n4) (x5 : Int32) {G : Unit → Mem → Option (α × Mem)} (kx : ∀ r σ, AW (XM l D ad cid) M12_sumUp 5 emb [(0, .ref (ad 12 0 0)), (3, .int x3), (4, .ref (ad a4 b4 c4)), (5, .int x5)] 145 [] σ (G r σ)) : ∀ (n : Nat) (σ : Mem) (x6 : Int32), AW (XM l D ad cid) M12_sumUp 5 emb [(0, .ref (ad 12 0 0)), (3, .int x3), (4, .ref (ad a4 b4 c4)), (5, .int x5), (6, .int x6)] 86 [] σ (bd (F12_sumUp_L86 x3 a4 b4 c4 n4 x5 n σ x6) G) := by
  intro n
  induction n with
  | zero => intros; exact aw_none
  | succ n ih =>
    intro σ x6
    refine aw_bdB ?_
    rw [F12_sumUp_L86.eq_2]
    refine aw_iload 4 dX12_sumUp_86 rfl ?_
    refine aw_bipush 20 dX12_sumUp_88 (by decide) ?_
    refine aw_iload 3 dX12_sumUp_90 rfl ?_
    refine aw_imul dX12_sumUp_92 ?_
    refine aw_icmp_gt 145 dX12_sumUp_93 (by decide) ?_ ?_
    · refine aw_ls (ls' := [(0, .ref (ad 12 0 0)), (3, .int x3), (4, .ref (ad a4 b4 c4)), (5, .int x5)]) [0, 1, 2, 3] rfl ?_
      exact kx () σ
    · refine aw_iconst 0 dX12_sumUp_96 (by decide) ?_
      refine aw_istore (ls' := [(0, .ref (ad 12 0 0)), (3, .int x3), (4, .ref (ad a4 b4 c4)), (5, .int x5), (6, .int x6), (7, .int 0)]) [1, 2, 3, 4, 5, 0] dX12_sumUp_97 (by decide) rfl ?_
      refine aw_assocW ?_
      refine c12_sumUp_L99 x3 a4 b4 c4 n4 hn4 x5 x6 (fun r_14 s_15 => ?_) fuelK σ 0
      refine aw_iinc (ls' := [(0, .ref (ad 12 0 0)), (3, .int x3), (4, .ref (ad a4 b4 c4)), (5, .int x5), (6, .int (x6 + 1))]) (x6 + 1) 4 [1, 2, 3, 4, 0] dX12_sumUp_139 rfl (by rfl) (by decide) rfl ?_
      refine aw_goto 86 dX12_sumUp_142 (by decide) ?_
      exact ih s_15 (x6 + 1)
def F12_sumUp_L148 (x3 : Int32) (a4 : Nat) (b4 : Nat) (c4 : Nat) (n4 : Nat) (x5 : Int32) : Nat → Mem → Int32 → Option ((Unit) × Mem)
  | 0 => fun _ _ => none
  | n + 1 => fun σ x6 =>
    if 101 ≤ x6 then (some ((), σ)) else ((ald 101 (gL σ 12 0 11) x6).bind fun v_18 => chk n4 x6 <| bnd (sL σ a4 b4 c4 (Int32.toNatClampNeg x6) v_18) fun s_19 => (F12_sumUp_L148 x3 a4 b4 c4 n4 x5 n) s_19 (x6 + 1))
set_option maxRecDepth 20000 in
theorem c12_sumUp_L148 {l : Launch} {D : va_G} {ad : Nat → Nat → Nat → Nat} {cid : Nat → Nat → Nat → ClassId} {α : Type} {emb : α → Option Value} (x3 : Int32) (a4 : Nat) (b4 : Nat) (c4 : Nat) (n4 : Nat) (hn4 : IsL (XM l D ad cid) a4 b4 c4 n4) (x5 : Int32) {G : Unit → Mem → Option (α × Mem)} (kx : ∀ r σ, AW (XM l D ad cid) M12_sumUp 5 emb [(0, .ref (ad 12 0 0)), (3, .int x3), (4, .ref (ad a4 b4 c4)), (5, .int x5)] 173 [] σ (G r σ)) : ∀ (n : Nat) (σ : Mem) (x6 : Int32), AW (XM l D ad cid) M12_sumUp 5 emb [(0, .ref (ad 12 0 0)), (3, .int x3), (4, .ref (ad a4 b4 c4)), (5, .int x5), (6, .int x6)] 148 [] σ (bd (F12_sumUp_L148 x3 a4 b4 c4 n4 x5 n σ x6) G) := by
  intro n
  induction n with
  | zero => intros; exact aw_none
  | succ n ih =>
    intro σ x6
    refine aw_bdB ?_
    rw [F12_sumUp_L148.eq_2]
    refine aw_iload 4 dX12_sumUp_148 rfl ?_
    refine aw_bipush 101 dX12_sumUp_150 (by decide) ?_
    refine aw_icmp_ge 173 dX12_sumUp_152 (by decide) ?_ ?_
    · refine aw_ls (ls' := [(0, .ref (ad 12 0 0)), (3, .int x3), (4, .ref (ad a4 b4 c4)), (5, .int x5)]) [0, 1, 2, 3] rfl ?_
      exact kx () σ
    · refine aw_aload 2 dX12_sumUp_155 rfl ?_
      refine aw_iload 4 dX12_sumUp_157 rfl ?_
      refine aw_aload_n 0 dX12_sumUp_159 rfl rfl ?_
      refine aw_getf (fg_12_39 (by decide)) ci_12 (by decide) w_1495 dX12_sumUp_160 ?_
      refine aw_iload 4 dX12_sumUp_163 rfl ?_
      refine aw_laload (ar_12_11 (by decide)) dX12_sumUp_165 (fun v_18 => ?_)
      refine aw_lastore hn4 dX12_sumUp_166 ?_
      refine aw_bndM (fun s_19 => ?_)
      refine aw_iinc (ls' := [(0, .ref (ad 12 0 0)), (3, .int x3), (4, .ref (ad a4 b4 c4)), (5, .int x5), (6, .int (x6 + 1))]) (x6 + 1) 4 [1, 2, 3, 4, 0] dX12_sumUp_167 rfl (by rfl) (by decide) rfl ?_
      refine aw_goto 148 dX12_sumUp_170 (by decide) ?_
      exact ih s_19 (x6 + 1)
def F12_sumUp_L53 (x3 : Int32) (a4 : Nat) (b4 : Nat) (c4 : Nat) (n4 : Nat) : Nat → Mem → Int32 → Option ((Unit) × Mem)
  | 0 => fun _ _ => none
  | n + 1 => fun σ x5 =>
    if x3 ≤ x5 then (some ((), σ)) else (bd (F12_sumUp_L62 x3 a4 b4 c4 n4 x5 fuelK σ 0) fun r_8 s_9 => bd (F12_sumUp_L86 x3 a4 b4 c4 n4 x5 fuelK s_9 0) fun r_16 s_17 => bd (F12_sumUp_L148 x3 a4 b4 c4 n4 x5 fuelK s_17 0) fun r_20 s_21 => (F12_sumUp_L53 x3 a4 b4 c4 n4 n) s_21 (x5 + 1))
set_option maxRecDepth 20000 in
theorem c12_sumUp_L53 {l : Launch} {D : va_G} {ad : Nat → Nat → Nat → Nat} {cid : Nat → Nat → Nat → ClassId} {α : Type} {emb : α → Option Value} (x3 : Int32) (a4 : Nat) (b4 : Nat) (c4 : Nat) (n4 : Nat) (hn4 : IsL (XM l D ad cid) a4 b4 c4 n4) {G : Unit → Mem → Option (α × Mem)} (kx : ∀ r σ, AW (XM l D ad cid) M12_sumUp 5 emb [] 179 [] σ (G r σ)) : ∀ (n : Nat) (σ : Mem) (x5 : Int32), AW (XM l D ad cid) M12_sumUp 5 emb [(0, .ref (ad 12 0 0)), (3, .int x3), (4, .ref (ad a4 b4 c4)), (5, .int x5)] 53 [] σ (bd (F12_sumUp_L53 x3 a4 b4 c4 n4 n σ x5) G) := by
  intro n
  induction n with
  | zero => intros; exact aw_none
  | succ n ih =>
    intro σ x5
    refine aw_bdB ?_
    rw [F12_sumUp_L53.eq_2]
    refine aw_iload 3 dX12_sumUp_53 rfl ?_
    refine aw_iload_n 1 dX12_sumUp_55 rfl rfl ?_
    refine aw_icmp_ge 179 dX12_sumUp_56 (by decide) ?_ ?_
    · refine aw_ls (ls' := []) [] rfl ?_
      exact kx () σ
    · refine aw_iconst 0 dX12_sumUp_59 (by decide) ?_
      refine aw_istore (ls' := [(0, .ref (ad 12 0 0)), (3, .int x3), (4, .ref (ad a4 b4 c4)), (5, .int x5), (6, .int 0)]) [1, 2, 3, 4, 0] dX12_sumUp_60 (by decide) rfl ?_
      refine aw_assocW ?_
      refine c12_sumUp_L62 x3 a4 b4 c4 n4 hn4 x5 (fun r_8 s_9 => ?_) fuelK σ 0
      refine aw_iconst 0 dX12_sumUp_83 (by decide) ?_
      refine aw_istore (ls' := [(0, .ref (ad 12 0 0)), (3, .int x3), (4, .ref (ad a4 b4 c4)), (5, .int x5), (6, .int 0)]) [1, 2, 3, 4, 0] dX12_sumUp_84 (by decide) rfl ?_
      refine aw_assocW ?_
      refine c12_sumUp_L86 x3 a4 b4 c4 n4 hn4 x5 (fun r_16 s_17 => ?_) fuelK s_9 0
      refine aw_iconst 0 dX12_sumUp_145 (by decide) ?_
      refine aw_istore (ls' := [(0, .ref (ad 12 0 0)), (3, .int x3), (4, .ref (ad a4 b4 c4)), (5, .int x5), (6, .int 0)]) [1, 2, 3, 4, 0] dX12_sumUp_146 (by decide) rfl ?_
      refine aw_assocW ?_
      refine c12_sumUp_L148 x3 a4 b4 c4 n4 hn4 x5 (fun r_20 s_21 => ?_) fuelK s_17 0
      refine aw_iinc (ls' := [(0, .ref (ad 12 0 0)), (3, .int x3), (4, .ref (ad a4 b4 c4)), (5, .int (x5 + 1))]) (x5 + 1) 3 [1, 2, 3, 0] dX12_sumUp_173 rfl (by rfl) (by decide) rfl ?_
      refine aw_goto 53 dX12_sumUp_176 (by decide) ?_
      exact ih s_21 (x5 + 1)
def F12_sumUp (σ : Mem) (x1 : Int32) (x2 : Int32) (x3 : Int32) (a4 : Nat) (b4 : Nat) (c4 : Nat) (n4 : Nat) : Option (Unit × Mem) :=
  (ald 3000 (gI σ 12 0 5) (53 + x1)).bind fun v_1 => bd (F12_counts σ x1 x2 v_1 2 0 0 0) fun _ s_2 => bd (F12_sumUp_L22 x3 a4 b4 c4 n4 fuelK s_2 0) fun r_5 s_6 => bd (F12_sumUp_L53 x3 a4 b4 c4 n4 fuelK s_6 0) fun r_22 s_23 => some ((), s_23)
set_option maxRecDepth 20000 in
theorem c12_sumUp {l : Launch} {D : va_G} {ad : Nat → Nat → Nat → Nat} {cid : Nat → Nat → Nat → ClassId} (σ : Mem) (x1 : Int32) (x2 : Int32) (x3 : Int32) (a4 : Nat) (b4 : Nat) (c4 : Nat) (n4 : Nat) (hn4 : IsL (XM l D ad cid) a4 b4 c4 n4) : AMF (XM l D ad cid) M12_sumUp 5 eU [.ref (ad 12 0 0), .int x1, .int x2, .int x3, .ref (ad a4 b4 c4)] σ (F12_sumUp σ x1 x2 x3 a4 b4 c4 n4) := by
  refine AM.ofW (by decide +kernel) (Nat.le_of_ble_eq_true rfl) (ls := [(0, .ref (ad 12 0 0)), (1, .int x1), (2, .int x2), (3, .int x3), (4, .ref (ad a4 b4 c4))]) rfl ?_
  refine aw_entry ?_
  unfold F12_sumUp
  refine aw_aload_n 0 dX12_sumUp_0 rfl rfl ?_
  refine aw_iload_n 1 dX12_sumUp_1 rfl rfl ?_
  refine aw_iload_n 2 dX12_sumUp_2 rfl rfl ?_
  refine aw_aload_n 0 dX12_sumUp_3 rfl rfl ?_
  refine aw_getf (fg_12_20 (by decide)) ci_12 (by decide) w_1476 dX12_sumUp_4 ?_
  refine aw_bipush 53 dX12_sumUp_7 (by decide) ?_
  refine aw_iload_n 1 dX12_sumUp_9 rfl rfl ?_
  refine aw_iadd dX12_sumUp_10 ?_
  refine aw_iaload (ar_12_5 (by decide)) dX12_sumUp_11 (fun v_1 => ?_)
  refine aw_iconst 2 dX12_sumUp_12 (by decide) ?_
  refine aw_iconst 0 dX12_sumUp_13 (by decide) ?_
  refine aw_iconst 0 dX12_sumUp_14 (by decide) ?_
  refine aw_iconst 0 dX12_sumUp_15 (by decide) ?_
  refine aw_callVW_U (c12_counts σ x1 x2 v_1 2 0 0 0) (io_12 (by decide)) ci_12 (by decide) mk_12_counts w_2046 w_116 w_2044 rfl rfl (Nat.le_of_ble_eq_true rfl) dX12_sumUp_16 (fun _ s_2 => ?_)
  refine aw_iconst 0 dX12_sumUp_19 (by decide) ?_
  refine aw_istore (ls' := [(0, .ref (ad 12 0 0)), (3, .int x3), (4, .ref (ad a4 b4 c4)), (5, .int 0)]) [1, 4, 5, 0] dX12_sumUp_20 (by decide) rfl ?_
  refine aw_assocW ?_
  refine c12_sumUp_L22 x3 a4 b4 c4 n4 hn4 (fun r_5 s_6 => ?_) fuelK s_2 0
  refine aw_iconst 0 dX12_sumUp_50 (by decide) ?_
  refine aw_istore (ls' := [(0, .ref (ad 12 0 0)), (3, .int x3), (4, .ref (ad a4 b4 c4)), (5, .int 0)]) [1, 2, 3, 0] dX12_sumUp_51 (by decide) rfl ?_
  refine aw_assocW ?_
  refine c12_sumUp_L53 x3 a4 b4 c4 n4 hn4 (fun r_22 s_23 => ?_) fuelK s_6 0
  exact aw_return rfl dX12_sumUp_179
def F12_waysOf_L5 (σ : Mem) (x1 : Int32) : Nat → Int64 → Int32 → Option (Int64)
  | 0 => fun _ _ => none
  | n + 1 => fun y2 x4 =>
    if x1 ≤ x4 then (some y2) else (bnd (y2 * (Int32.toInt64 (gI σ 12 0 0 33))) fun v_1 => (F12_waysOf_L5 σ x1 n) v_1 (x4 + 1))
set_option maxRecDepth 20000 in
theorem c12_waysOf_L5 {l : Launch} {D : va_G} {ad : Nat → Nat → Nat → Nat} {cid : Nat → Nat → Nat → ClassId} {α : Type} {emb : α → Option Value} (σ : Mem) (x1 : Int32) {G : Int64 → Option (α × Mem)} (kx : ∀ r, AW (XM l D ad cid) M12_waysOf 0 emb [(2, .long r)] 25 [] σ (G r)) : ∀ (n : Nat) (y2 : Int64) (x4 : Int32), AW (XM l D ad cid) M12_waysOf 0 emb [(0, .ref (ad 12 0 0)), (1, .int x1), (2, .long y2), (4, .int x4)] 5 [] σ ((F12_waysOf_L5 σ x1 n y2 x4).bind G) := by
  intro n
  induction n with
  | zero => intros; exact aw_none
  | succ n ih =>
    intro y2 x4
    rw [F12_waysOf_L5.eq_2]
    refine aw_iload 3 dX12_waysOf_5 rfl ?_
    refine aw_iload_n 1 dX12_waysOf_7 rfl rfl ?_
    refine aw_icmp_ge 25 dX12_waysOf_8 (by decide) ?_ ?_
    · refine aw_ls (ls' := [(2, .long y2)]) [2] rfl ?_
      exact kx y2
    · refine aw_lload_n 2 dX12_waysOf_11 rfl rfl ?_
      refine aw_aload_n 0 dX12_waysOf_12 rfl rfl ?_
      refine aw_getf (fg_12_33 (by decide)) ci_12 (by decide) w_1489 dX12_waysOf_13 ?_
      refine aw_i2l dX12_waysOf_16 ?_
      refine aw_lmul dX12_waysOf_17 ?_
      refine aw_bnd_long (fun v_1 => ?_)
      refine aw_lstore_n (ls' := [(0, .ref (ad 12 0 0)), (1, .int x1), (2, .long v_1), (4, .int x4)]) [1, 2, 0, 3] dX12_waysOf_18 rfl (by decide) rfl ?_
      refine aw_iinc (ls' := [(0, .ref (ad 12 0 0)), (1, .int x1), (2, .long v_1), (4, .int (x4 + 1))]) (x4 + 1) 3 [1, 2, 3, 0] dX12_waysOf_19 rfl (by rfl) (by decide) rfl ?_
      refine aw_goto 5 dX12_waysOf_22 (by decide) ?_
      exact ih v_1 (x4 + 1)
def F12_waysOf (σ : Mem) (x1 : Int32) : Option Int64 :=
  (F12_waysOf_L5 σ x1 fuelK 1 0).bind fun r_2 => some r_2
set_option maxRecDepth 20000 in
theorem c12_waysOf {l : Launch} {D : va_G} {ad : Nat → Nat → Nat → Nat} {cid : Nat → Nat → Nat → ClassId} (σ : Mem) (x1 : Int32) : AMF (XM l D ad cid) M12_waysOf 0 eL [.ref (ad 12 0 0), .int x1] σ (oM σ (F12_waysOf σ x1)) := by
  refine AM.ofW (by decide +kernel) (Nat.le_of_ble_eq_true rfl) (ls := [(0, .ref (ad 12 0 0)), (1, .int x1)]) rfl ?_
  refine aw_entryO ?_
  unfold F12_waysOf
  refine aw_lconst 1 dX12_waysOf_0 (by decide) ?_
  refine aw_lstore_n (ls' := [(0, .ref (ad 12 0 0)), (1, .int x1), (2, .long 1)]) [1, 2, 0] dX12_waysOf_1 rfl (by decide) rfl ?_
  refine aw_iconst 0 dX12_waysOf_2 (by decide) ?_
  refine aw_istore (ls' := [(0, .ref (ad 12 0 0)), (1, .int x1), (2, .long 1), (4, .int 0)]) [1, 2, 3, 0] dX12_waysOf_3 (by decide) rfl ?_
  refine aw_assoc ?_
  refine c12_waysOf_L5 σ x1 (fun r_2 => ?_) fuelK 1 0
  refine aw_lload_n 0 dX12_waysOf_25 rfl rfl ?_
  exact aw_lreturn rfl dX12_waysOf_26
def F12_turns_L128 (σ : Mem) (x6 : Int32) (x9 : Int32) : Nat → Int64 → Int32 → Option (Int64)
  | 0 => fun _ _ => none
  | n + 1 => fun y7 x10 =>
    if 101 ≤ x10 then (some y7) else (if x6 = 0 then (if x9 ≤ x10 then ((F12_turns_L128 σ x6 x9 n) y7 (x10 + 1)) else ((ald 101 (gL σ 12 0 9) x9).bind fun v_21 => (ald 101 (gL σ 12 0 10) x10).bind fun v_22 => bnd (y7 + (v_21 * v_22)) fun v_23 => (F12_turns_L128 σ x6 x9 n) v_23 (x10 + 1))) else (if x6 = 1 then (if x9 = x10 then ((ald 101 (gL σ 12 0 9) x9).bind fun v_18 => (ald 101 (gL σ 12 0 10) x10).bind fun v_19 => bnd (y7 + (v_18 * v_19)) fun v_20 => (F12_turns_L128 σ x6 x9 n) v_20 (x10 + 1)) else ((F12_turns_L128 σ x6 x9 n) y7 (x10 + 1))) else (if x10 ≤ x9 then ((F12_turns_L128 σ x6 x9 n) y7 (x10 + 1)) else ((ald 101 (gL σ 12 0 9) x9).bind fun v_15 => (ald 101 (gL σ 12 0 10) x10).bind fun v_16 => bnd (y7 + (v_15 * v_16)) fun v_17 => (F12_turns_L128 σ x6 x9 n) v_17 (x10 + 1)))))
set_option maxRecDepth 20000 in
theorem c12_turns_L128 {l : Launch} {D : va_G} {ad : Nat → Nat → Nat → Nat} {cid : Nat → Nat → Nat → ClassId} {α : Type} {emb : α → Option Value} (σ : Mem) (x6 : Int32) (x9 : Int32) {G : Int64 → Option (α × Mem)} (kx : ∀ r, AW (XM l D ad cid) M12_turns 6 emb [(0, .ref (ad 12 0 0)), (6, .int x6), (7, .long r), (9, .int x9)] 199 [] σ (G r)) : ∀ (n : Nat) (y7 : Int64) (x10 : Int32), AW (XM l D ad cid) M12_turns 6 emb [(0, .ref (ad 12 0 0)), (6, .int x6), (7, .long y7), (9, .int x9), (10, .int x10)] 128 [] σ ((F12_turns_L128 σ x6 x9 n y7 x10).bind G) := by
  intro n
  induction n with
  | zero => intros; exact aw_none
  | succ n ih =>
    intro y7 x10
    rw [F12_turns_L128.eq_2]
    refine aw_iload 4 dX12_turns_128 rfl ?_
    refine aw_bipush 101 dX12_turns_130 (by decide) ?_
    refine aw_icmp_ge 199 dX12_turns_132 (by decide) ?_ ?_
    · refine aw_ls (ls' := [(0, .ref (ad 12 0 0)), (6, .int x6), (7, .long y7), (9, .int x9)]) [0, 1, 2, 3] rfl ?_
      exact kx y7
    · refine aw_iload 1 dX12_turns_135 rfl ?_
      refine aw_if_ne 150 dX12_turns_137 (by decide) ?_ ?_
      · refine aw_iload 1 dX12_turns_150 rfl ?_
        refine aw_iconst 1 dX12_turns_152 (by decide) ?_
        refine aw_icmp_ne 166 dX12_turns_153 (by decide) ?_ ?_
        · refine aw_iload 3 dX12_turns_166 rfl ?_
          refine aw_iload 4 dX12_turns_168 rfl ?_
          refine aw_icmp_ge 193 dX12_turns_170 (by decide) ?_ ?_
          · refine aw_iinc (ls' := [(0, .ref (ad 12 0 0)), (6, .int x6), (7, .long y7), (9, .int x9), (10, .int (x10 + 1))]) (x10 + 1) 4 [1, 2, 3, 4, 0] dX12_turns_193 rfl (by rfl) (by decide) rfl ?_
            refine aw_goto 128 dX12_turns_196 (by decide) ?_
            exact ih y7 (x10 + 1)
          · refine aw_lload 2 dX12_turns_173 rfl ?_
            refine aw_aload_n 0 dX12_turns_175 rfl rfl ?_
            refine aw_getf (fg_12_37 (by decide)) ci_12 (by decide) w_1493 dX12_turns_176 ?_
            refine aw_iload 3 dX12_turns_179 rfl ?_
            refine aw_laload (ar_12_9 (by decide)) dX12_turns_181 (fun v_15 => ?_)
            refine aw_aload_n 0 dX12_turns_182 rfl rfl ?_
            refine aw_getf (fg_12_38 (by decide)) ci_12 (by decide) w_1494 dX12_turns_183 ?_
            refine aw_iload 4 dX12_turns_186 rfl ?_
            refine aw_laload (ar_12_10 (by decide)) dX12_turns_188 (fun v_16 => ?_)
            refine aw_lmul dX12_turns_189 ?_
            refine aw_ladd dX12_turns_190 ?_
            refine aw_bnd_long (fun v_17 => ?_)
            refine aw_lstore (ls' := [(0, .ref (ad 12 0 0)), (6, .int x6), (7, .long v_17), (9, .int x9), (10, .int x10)]) [1, 2, 0, 3, 4] dX12_turns_191 (by decide) rfl ?_
            refine aw_iinc (ls' := [(0, .ref (ad 12 0 0)), (6, .int x6), (7, .long v_17), (9, .int x9), (10, .int (x10 + 1))]) (x10 + 1) 4 [1, 2, 3, 4, 0] dX12_turns_193 rfl (by rfl) (by decide) rfl ?_
            refine aw_goto 128 dX12_turns_196 (by decide) ?_
            exact ih v_17 (x10 + 1)
        · refine aw_iload 3 dX12_turns_156 rfl ?_
          refine aw_iload 4 dX12_turns_158 rfl ?_
          refine aw_icmp_ne 193 dX12_turns_160 (by decide) ?_ ?_
          · refine aw_iinc (ls' := [(0, .ref (ad 12 0 0)), (6, .int x6), (7, .long y7), (9, .int x9), (10, .int (x10 + 1))]) (x10 + 1) 4 [1, 2, 3, 4, 0] dX12_turns_193 rfl (by rfl) (by decide) rfl ?_
            refine aw_goto 128 dX12_turns_196 (by decide) ?_
            exact ih y7 (x10 + 1)
          · refine aw_goto 173 dX12_turns_163 (by decide) ?_
            refine aw_lload 2 dX12_turns_173 rfl ?_
            refine aw_aload_n 0 dX12_turns_175 rfl rfl ?_
            refine aw_getf (fg_12_37 (by decide)) ci_12 (by decide) w_1493 dX12_turns_176 ?_
            refine aw_iload 3 dX12_turns_179 rfl ?_
            refine aw_laload (ar_12_9 (by decide)) dX12_turns_181 (fun v_18 => ?_)
            refine aw_aload_n 0 dX12_turns_182 rfl rfl ?_
            refine aw_getf (fg_12_38 (by decide)) ci_12 (by decide) w_1494 dX12_turns_183 ?_
            refine aw_iload 4 dX12_turns_186 rfl ?_
            refine aw_laload (ar_12_10 (by decide)) dX12_turns_188 (fun v_19 => ?_)
            refine aw_lmul dX12_turns_189 ?_
            refine aw_ladd dX12_turns_190 ?_
            refine aw_bnd_long (fun v_20 => ?_)
            refine aw_lstore (ls' := [(0, .ref (ad 12 0 0)), (6, .int x6), (7, .long v_20), (9, .int x9), (10, .int x10)]) [1, 2, 0, 3, 4] dX12_turns_191 (by decide) rfl ?_
            refine aw_iinc (ls' := [(0, .ref (ad 12 0 0)), (6, .int x6), (7, .long v_20), (9, .int x9), (10, .int (x10 + 1))]) (x10 + 1) 4 [1, 2, 3, 4, 0] dX12_turns_193 rfl (by rfl) (by decide) rfl ?_
            refine aw_goto 128 dX12_turns_196 (by decide) ?_
            exact ih v_20 (x10 + 1)
      · refine aw_iload 3 dX12_turns_140 rfl ?_
        refine aw_iload 4 dX12_turns_142 rfl ?_
        refine aw_icmp_le 193 dX12_turns_144 (by decide) ?_ ?_
        · refine aw_iinc (ls' := [(0, .ref (ad 12 0 0)), (6, .int x6), (7, .long y7), (9, .int x9), (10, .int (x10 + 1))]) (x10 + 1) 4 [1, 2, 3, 4, 0] dX12_turns_193 rfl (by rfl) (by decide) rfl ?_
          refine aw_goto 128 dX12_turns_196 (by decide) ?_
          exact ih y7 (x10 + 1)
        · refine aw_goto 173 dX12_turns_147 (by decide) ?_
          refine aw_lload 2 dX12_turns_173 rfl ?_
          refine aw_aload_n 0 dX12_turns_175 rfl rfl ?_
          refine aw_getf (fg_12_37 (by decide)) ci_12 (by decide) w_1493 dX12_turns_176 ?_
          refine aw_iload 3 dX12_turns_179 rfl ?_
          refine aw_laload (ar_12_9 (by decide)) dX12_turns_181 (fun v_21 => ?_)
          refine aw_aload_n 0 dX12_turns_182 rfl rfl ?_
          refine aw_getf (fg_12_38 (by decide)) ci_12 (by decide) w_1494 dX12_turns_183 ?_
          refine aw_iload 4 dX12_turns_186 rfl ?_
          refine aw_laload (ar_12_10 (by decide)) dX12_turns_188 (fun v_22 => ?_)
          refine aw_lmul dX12_turns_189 ?_
          refine aw_ladd dX12_turns_190 ?_
          refine aw_bnd_long (fun v_23 => ?_)
          refine aw_lstore (ls' := [(0, .ref (ad 12 0 0)), (6, .int x6), (7, .long v_23), (9, .int x9), (10, .int x10)]) [1, 2, 0, 3, 4] dX12_turns_191 (by decide) rfl ?_
          refine aw_iinc (ls' := [(0, .ref (ad 12 0 0)), (6, .int x6), (7, .long v_23), (9, .int x9), (10, .int (x10 + 1))]) (x10 + 1) 4 [1, 2, 3, 4, 0] dX12_turns_193 rfl (by rfl) (by decide) rfl ?_
          refine aw_goto 128 dX12_turns_196 (by decide) ?_
          exact ih v_23 (x10 + 1)
def F12_turns_L118 (σ : Mem) (x6 : Int32) : Nat → Int64 → Int32 → Option (Int64)
  | 0 => fun _ _ => none
  | n + 1 => fun y7 x9 =>
    if 101 ≤ x9 then (some y7) else ((F12_turns_L128 σ x6 x9 fuelK y7 0).bind fun r_24 => (F12_turns_L118 σ x6 n) r_24 (x9 + 1))
set_option maxRecDepth 20000 in
theorem c12_turns_L118 {l : Launch} {D : va_G} {ad : Nat → Nat → Nat → Nat} {cid : Nat → Nat → Nat → ClassId} {α : Type} {emb : α → Option Value} (σ : Mem) (x6 : Int32) {G : Int64 → Option (α × Mem)} (kx : ∀ r, AW (XM l D ad cid) M12_turns 6 emb [(0, .ref (ad 12 0 0)), (7, .long r)] 205 [] σ (G r)) : ∀ (n : Nat) (y7 : Int64) (x9 : Int32), AW (XM l D ad cid) M12_turns 6 emb [(0, .ref (ad 12 0 0)), (6, .int x6), (7, .long y7), (9, .int x9)] 118 [] σ ((F12_turns_L118 σ x6 n y7 x9).bind G) := by
  intro n
  induction n with
  | zero => intros; exact aw_none
  | succ n ih =>
    intro y7 x9
    rw [F12_turns_L118.eq_2]
    refine aw_iload 3 dX12_turns_118 rfl ?_
    refine aw_bipush 101 dX12_turns_120 (by decide) ?_
    refine aw_icmp_ge 205 dX12_turns_122 (by decide) ?_ ?_
    · refine aw_ls (ls' := [(0, .ref (ad 12 0 0)), (7, .long y7)]) [0, 2] rfl ?_
      exact kx y7
    · refine aw_iconst 0 dX12_turns_125 (by decide) ?_
      refine aw_istore (ls' := [(0, .ref (ad 12 0 0)), (6, .int x6), (7, .long y7), (9, .int x9), (10, .int 0)]) [1, 2, 3, 4, 0] dX12_turns_126 (by decide) rfl ?_
      refine aw_assoc ?_
      refine c12_turns_L128 σ x6 x9 (fun r_24 => ?_) fuelK y7 0
      refine aw_iinc (ls' := [(0, .ref (ad 12 0 0)), (6, .int x6), (7, .long r_24), (9, .int (x9 + 1))]) (x9 + 1) 3 [1, 2, 3, 0] dX12_turns_199 rfl (by rfl) (by decide) rfl ?_
      refine aw_goto 118 dX12_turns_202 (by decide) ?_
      exact ih r_24 (x9 + 1)
def F12_turns (σ : Mem) (x1 : Int32) (x2 : Int32) (x3 : Int32) (x4 : Int32) (x5 : Int32) (x6 : Int32) : Option (Bool × Mem) :=
  bnd (sI σ 12 0 0 1 0) fun s_1 => bnd (sI s_1 12 0 0 0 0) fun s_2 => (F12_isShot s_2 x1 x2).bind fun v_3 => if v_3 = true then ((F12_isShot s_2 x3 x4).bind fun v_6 => if v_6 = true then (if (F12_isIn (Int32.toInt64 x5) 1 5) = true then (if (F12_isIn (Int32.toInt64 x6) 0 2) = true then (bd (F12_sumUp s_2 x1 x2 x5 12 0 9 101) fun _ s_9 => (F12_waysOf s_9 x5).bind fun v_10 => bnd (sL s_9 12 0 0 40 v_10) fun s_11 => bd (F12_sumUp s_11 x3 x4 x5 12 0 10 101) fun _ s_12 => (F12_waysOf s_12 x5).bind fun v_13 => bnd (sL s_12 12 0 0 41 v_13) fun s_14 => (F12_turns_L118 s_14 x6 fuelK 0 0).bind fun r_25 => bd (F12_fraction s_14 r_25 ((gL s_14 12 0 0 40) * (gL s_14 12 0 0 41))) fun v_26 s_27 => some (v_26, s_27)) else (bd (F12_no s_2 5) fun v_28 s_29 => some (v_28, s_29))) else (bd (F12_no s_2 5) fun v_7 s_8 => some (v_7, s_8))) else (bd (F12_no s_2 2) fun v_30 s_31 => some (v_30, s_31))) else (bd (F12_no s_2 2) fun v_4 s_5 => some (v_4, s_5))
set_option maxRecDepth 20000 in
theorem c12_turns {l : Launch} {D : va_G} {ad : Nat → Nat → Nat → Nat} {cid : Nat → Nat → Nat → ClassId} (σ : Mem) (x1 : Int32) (x2 : Int32) (x3 : Int32) (x4 : Int32) (x5 : Int32) (x6 : Int32) : AMF (XM l D ad cid) M12_turns 6 eB [.ref (ad 12 0 0), .int x1, .int x2, .int x3, .int x4, .int x5, .int x6] σ (F12_turns σ x1 x2 x3 x4 x5 x6) := by
  refine AM.ofW (by decide +kernel) (Nat.le_of_ble_eq_true rfl) (ls := [(0, .ref (ad 12 0 0)), (1, .int x1), (2, .int x2), (3, .int x3), (4, .int x4), (5, .int x5), (6, .int x6)]) rfl ?_
  refine aw_entry ?_
  unfold F12_turns
  refine aw_aload_n 0 dX12_turns_0 rfl rfl ?_
  refine aw_iconst 0 dX12_turns_1 (by decide) ?_
  refine aw_putI (fs_12_1 (by decide)) ci_12 (by decide) rfl rfl w_1457 dX12_turns_2 ?_
  refine aw_bndM (fun s_1 => ?_)
  refine aw_aload_n 0 dX12_turns_5 rfl rfl ?_
  refine aw_iconst 0 dX12_turns_6 (by decide) ?_
  refine aw_putI (fs_12_0 (by decide)) ci_12 (by decide) rfl rfl w_1456 dX12_turns_7 ?_
  refine aw_bndM (fun s_2 => ?_)
  refine aw_aload_n 0 dX12_turns_10 rfl rfl ?_
  refine aw_iload_n 1 dX12_turns_11 rfl rfl ?_
  refine aw_iload_n 2 dX12_turns_12 rfl rfl ?_
  refine aw_callVO_B (c12_isShot s_2 x1 x2) (io_12 (by decide)) ci_12 (by decide) mk_12_isShot w_2042 w_115 w_2040 rfl rfl (Nat.le_of_ble_eq_true rfl) dX12_turns_13 (fun v_3 => ?_)
  refine aw_bif_eq 29 dX12_turns_16 (by decide) ?_ ?_
  · refine aw_aload_n 0 dX12_turns_29 rfl rfl ?_
    refine aw_iconst 2 dX12_turns_30 (by decide) ?_
    refine aw_callVW_B (c12_no s_2 2) (io_12 (by decide)) ci_12 (by decide) mk_12_no w_1658 w_49 w_1656 rfl rfl (Nat.le_of_ble_eq_true rfl) dX12_turns_31 (fun v_4 s_5 => ?_)
    exact aw_zreturn (b := v_4) rfl rfl dX12_turns_34
  · refine aw_aload_n 0 dX12_turns_19 rfl rfl ?_
    refine aw_iload_n 3 dX12_turns_20 rfl rfl ?_
    refine aw_iload 4 dX12_turns_21 rfl ?_
    refine aw_callVO_B (c12_isShot s_2 x3 x4) (io_12 (by decide)) ci_12 (by decide) mk_12_isShot w_2042 w_115 w_2040 rfl rfl (Nat.le_of_ble_eq_true rfl) dX12_turns_23 (fun v_6 => ?_)
    refine aw_bif_ne 35 dX12_turns_26 (by decide) ?_ ?_
    · refine aw_iload 5 dX12_turns_35 rfl ?_
      refine aw_i2l dX12_turns_37 ?_
      refine aw_lconst 1 dX12_turns_38 (by decide) ?_
      refine aw_ldc2 w_2104 dX12_turns_39 ?_
      refine aw_callST_B (c12_isIn s_2 (Int32.toInt64 x5) 1 5) (by decide) mk_12_isIn w_1752 w_1751 rfl rfl (Nat.le_of_ble_eq_true rfl) dX12_turns_42 ?_
      refine aw_bif_eq 61 dX12_turns_45 (by decide) ?_ ?_
      · refine aw_aload_n 0 dX12_turns_61 rfl rfl ?_
        refine aw_iconst 5 dX12_turns_62 (by decide) ?_
        refine aw_callVW_B (c12_no s_2 5) (io_12 (by decide)) ci_12 (by decide) mk_12_no w_1658 w_49 w_1656 rfl rfl (Nat.le_of_ble_eq_true rfl) dX12_turns_63 (fun v_7 s_8 => ?_)
        exact aw_zreturn (b := v_7) rfl rfl dX12_turns_66
      · refine aw_iload 6 dX12_turns_48 rfl ?_
        refine aw_i2l dX12_turns_50 ?_
        refine aw_lconst 0 dX12_turns_51 (by decide) ?_
        refine aw_ldc2 w_2105 dX12_turns_52 ?_
        refine aw_callST_B (c12_isIn s_2 (Int32.toInt64 x6) 0 2) (by decide) mk_12_isIn w_1752 w_1751 rfl rfl (Nat.le_of_ble_eq_true rfl) dX12_turns_55 ?_
        refine aw_bif_ne 67 dX12_turns_58 (by decide) ?_ ?_
        · refine aw_aload_n 0 dX12_turns_67 rfl rfl ?_
          refine aw_iload_n 1 dX12_turns_68 rfl rfl ?_
          refine aw_iload_n 2 dX12_turns_69 rfl rfl ?_
          refine aw_iload 5 dX12_turns_70 rfl ?_
          refine aw_aload_n 0 dX12_turns_72 rfl rfl ?_
          refine aw_getf (fg_12_37 (by decide)) ci_12 (by decide) w_1493 dX12_turns_73 ?_
          refine aw_callVW_U (c12_sumUp s_2 x1 x2 x5 12 0 9 101 (ar_12_9 (by decide))) (io_12 (by decide)) ci_12 (by decide) mk_12_sumUp w_2108 w_121 w_2106 rfl rfl (Nat.le_of_ble_eq_true rfl) dX12_turns_76 (fun _ s_9 => ?_)
          refine aw_aload_n 0 dX12_turns_79 rfl rfl ?_
          refine aw_aload_n 0 dX12_turns_80 rfl rfl ?_
          refine aw_iload 5 dX12_turns_81 rfl ?_
          refine aw_callVO_L (c12_waysOf s_9 x5) (io_12 (by decide)) ci_12 (by decide) mk_12_waysOf w_2112 w_122 w_2110 rfl rfl (Nat.le_of_ble_eq_true rfl) dX12_turns_83 (fun v_10 => ?_)
          refine aw_putL (fs_12_40 (by decide)) ci_12 (by decide) rfl rfl w_1496 dX12_turns_86 ?_
          refine aw_bndM (fun s_11 => ?_)
          refine aw_aload_n 0 dX12_turns_89 rfl rfl ?_
          refine aw_iload_n 3 dX12_turns_90 rfl rfl ?_
          refine aw_iload 4 dX12_turns_91 rfl ?_
          refine aw_iload 5 dX12_turns_93 rfl ?_
          refine aw_aload_n 0 dX12_turns_95 rfl rfl ?_
          refine aw_getf (fg_12_38 (by decide)) ci_12 (by decide) w_1494 dX12_turns_96 ?_
          refine aw_callVW_U (c12_sumUp s_11 x3 x4 x5 12 0 10 101 (ar_12_10 (by decide))) (io_12 (by decide)) ci_12 (by decide) mk_12_sumUp w_2108 w_121 w_2106 rfl rfl (Nat.le_of_ble_eq_true rfl) dX12_turns_99 (fun _ s_12 => ?_)
          refine aw_aload_n 0 dX12_turns_102 rfl rfl ?_
          refine aw_aload_n 0 dX12_turns_103 rfl rfl ?_
          refine aw_iload 5 dX12_turns_104 rfl ?_
          refine aw_callVO_L (c12_waysOf s_12 x5) (io_12 (by decide)) ci_12 (by decide) mk_12_waysOf w_2112 w_122 w_2110 rfl rfl (Nat.le_of_ble_eq_true rfl) dX12_turns_106 (fun v_13 => ?_)
          refine aw_putL (fs_12_41 (by decide)) ci_12 (by decide) rfl rfl w_1497 dX12_turns_109 ?_
          refine aw_bndM (fun s_14 => ?_)
          refine aw_lconst 0 dX12_turns_112 (by decide) ?_
          refine aw_lstore (ls' := [(0, .ref (ad 12 0 0)), (6, .int x6), (7, .long 0)]) [1, 7, 0] dX12_turns_113 (by decide) rfl ?_
          refine aw_iconst 0 dX12_turns_115 (by decide) ?_
          refine aw_istore (ls' := [(0, .ref (ad 12 0 0)), (6, .int x6), (7, .long 0), (9, .int 0)]) [1, 2, 3, 0] dX12_turns_116 (by decide) rfl ?_
          refine aw_assoc ?_
          refine c12_turns_L118 s_14 x6 (fun r_25 => ?_) fuelK 0 0
          refine aw_aload_n 0 dX12_turns_205 rfl rfl ?_
          refine aw_lload 1 dX12_turns_206 rfl ?_
          refine aw_aload_n 0 dX12_turns_208 rfl rfl ?_
          refine aw_getf (fg_12_40 (by decide)) ci_12 (by decide) w_1496 dX12_turns_209 ?_
          refine aw_aload_n 0 dX12_turns_212 rfl rfl ?_
          refine aw_getf (fg_12_41 (by decide)) ci_12 (by decide) w_1497 dX12_turns_213 ?_
          refine aw_lmul dX12_turns_216 ?_
          refine aw_callVW_B (c12_fraction s_14 r_25 ((gL s_14 12 0 0 40) * (gL s_14 12 0 0 41))) (io_12 (by decide)) ci_12 (by decide) mk_12_fraction w_2050 w_117 w_2048 rfl rfl (Nat.le_of_ble_eq_true rfl) dX12_turns_217 (fun v_26 s_27 => ?_)
          exact aw_zreturn (b := v_26) rfl rfl dX12_turns_220
        · refine aw_aload_n 0 dX12_turns_61 rfl rfl ?_
          refine aw_iconst 5 dX12_turns_62 (by decide) ?_
          refine aw_callVW_B (c12_no s_2 5) (io_12 (by decide)) ci_12 (by decide) mk_12_no w_1658 w_49 w_1656 rfl rfl (Nat.le_of_ble_eq_true rfl) dX12_turns_63 (fun v_28 s_29 => ?_)
          exact aw_zreturn (b := v_28) rfl rfl dX12_turns_66
    · refine aw_aload_n 0 dX12_turns_29 rfl rfl ?_
      refine aw_iconst 2 dX12_turns_30 (by decide) ?_
      refine aw_callVW_B (c12_no s_2 2) (io_12 (by decide)) ci_12 (by decide) mk_12_no w_1658 w_49 w_1656 rfl rfl (Nat.le_of_ble_eq_true rfl) dX12_turns_31 (fun v_30 s_31 => ?_)
      exact aw_zreturn (b := v_30) rfl rfl dX12_turns_34
def F12_isTray (x1 : Int32) : Bool :=
  (F12_isIn (Int32.toInt64 x1) 0 3)
set_option maxRecDepth 20000 in
theorem c12_isTray {l : Launch} {D : va_G} {ad : Nat → Nat → Nat → Nat} {cid : Nat → Nat → Nat → ClassId} (σ : Mem) (x1 : Int32) : AMF (XM l D ad cid) M12_isTray 1 eB [.ref (ad 12 0 0), .int x1] σ (some (F12_isTray x1, σ)) := by
  refine AM.ofW (by decide +kernel) (Nat.le_of_ble_eq_true rfl) (ls := [(0, .ref (ad 12 0 0)), (1, .int x1)]) rfl ?_
  refine aw_entryT ?_
  unfold F12_isTray
  refine aw_iload_n 1 dX12_isTray_0 rfl rfl ?_
  refine aw_i2l dX12_isTray_1 ?_
  refine aw_lconst 0 dX12_isTray_2 (by decide) ?_
  refine aw_ldc2 w_1979 dX12_isTray_3 ?_
  refine aw_callST_B (c12_isIn σ (Int32.toInt64 x1) 0 3) (by decide) mk_12_isIn w_1752 w_1751 rfl rfl (Nat.le_of_ble_eq_true rfl) dX12_isTray_6 ?_
  exact aw_zreturn (b := (F12_isIn (Int32.toInt64 x1) 0 3)) rfl rfl dX12_isTray_9
def F12_numberOf (σ : Mem) (x1 : Int32) (x2 : Int32) : Option Int64 :=
  (ald 240 (gL σ 12 0 3) ((60 * x1) + x2)).bind fun v_1 => some v_1
set_option maxRecDepth 20000 in
theorem c12_numberOf {l : Launch} {D : va_G} {ad : Nat → Nat → Nat → Nat} {cid : Nat → Nat → Nat → ClassId} (σ : Mem) (x1 : Int32) (x2 : Int32) : AMF (XM l D ad cid) M12_numberOf 0 eL [.ref (ad 12 0 0), .int x1, .int x2] σ (oM σ (F12_numberOf σ x1 x2)) := by
  refine AM.ofW (by decide +kernel) (Nat.le_of_ble_eq_true rfl) (ls := [(0, .ref (ad 12 0 0)), (1, .int x1), (2, .int x2)]) rfl ?_
  refine aw_entryO ?_
  unfold F12_numberOf
  refine aw_aload_n 0 dX12_numberOf_0 rfl rfl ?_
  refine aw_getf (fg_12_6 (by decide)) ci_12 (by decide) w_1462 dX12_numberOf_1 ?_
  refine aw_bipush 60 dX12_numberOf_4 (by decide) ?_
  refine aw_iload_n 1 dX12_numberOf_6 rfl rfl ?_
  refine aw_imul dX12_numberOf_7 ?_
  refine aw_iload_n 2 dX12_numberOf_8 rfl rfl ?_
  refine aw_iadd dX12_numberOf_9 ?_
  refine aw_laload (ar_12_3 (by decide)) dX12_numberOf_10 (fun v_1 => ?_)
  exact aw_lreturn rfl dX12_numberOf_11
def F12_beats_L38 (σ : Mem) (x6 : Int32) : Nat → Int64 → Int32 → Option (Int64)
  | 0 => fun _ _ => none
  | n + 1 => fun y4 x7 =>
    if x6 ≤ x7 then (some y4) else ((ald 101 (gL σ 12 0 9) x6).bind fun v_3 => (ald 101 (gL σ 12 0 10) x7).bind fun v_4 => bnd (y4 + (v_3 * v_4)) fun v_5 => (F12_beats_L38 σ x6 n) v_5 (x7 + 1))
set_option maxRecDepth 20000 in
theorem c12_beats_L38 {l : Launch} {D : va_G} {ad : Nat → Nat → Nat → Nat} {cid : Nat → Nat → Nat → ClassId} {α : Type} {emb : α → Option Value} (σ : Mem) (x6 : Int32) {G : Int64 → Option (α × Mem)} (kx : ∀ r, AW (XM l D ad cid) M12_beats 6 emb [(0, .ref (ad 12 0 0)), (4, .long r), (6, .int x6)] 71 [] σ (G r)) : ∀ (n : Nat) (y4 : Int64) (x7 : Int32), AW (XM l D ad cid) M12_beats 6 emb [(0, .ref (ad 12 0 0)), (4, .long y4), (6, .int x6), (7, .int x7)] 38 [] σ ((F12_beats_L38 σ x6 n y4 x7).bind G) := by
  intro n
  induction n with
  | zero => intros; exact aw_none
  | succ n ih =>
    intro y4 x7
    rw [F12_beats_L38.eq_2]
    refine aw_iload 3 dX12_beats_38 rfl ?_
    refine aw_iload 2 dX12_beats_40 rfl ?_
    refine aw_icmp_ge 71 dX12_beats_42 (by decide) ?_ ?_
    · refine aw_ls (ls' := [(0, .ref (ad 12 0 0)), (4, .long y4), (6, .int x6)]) [0, 1, 2] rfl ?_
      exact kx y4
    · refine aw_lload 1 dX12_beats_45 rfl ?_
      refine aw_aload_n 0 dX12_beats_47 rfl rfl ?_
      refine aw_getf (fg_12_37 (by decide)) ci_12 (by decide) w_1493 dX12_beats_48 ?_
      refine aw_iload 2 dX12_beats_51 rfl ?_
      refine aw_laload (ar_12_9 (by decide)) dX12_beats_53 (fun v_3 => ?_)
      refine aw_aload_n 0 dX12_beats_54 rfl rfl ?_
      refine aw_getf (fg_12_38 (by decide)) ci_12 (by decide) w_1494 dX12_beats_55 ?_
      refine aw_iload 3 dX12_beats_58 rfl ?_
      refine aw_laload (ar_12_10 (by decide)) dX12_beats_60 (fun v_4 => ?_)
      refine aw_lmul dX12_beats_61 ?_
      refine aw_ladd dX12_beats_62 ?_
      refine aw_bnd_long (fun v_5 => ?_)
      refine aw_lstore (ls' := [(0, .ref (ad 12 0 0)), (4, .long v_5), (6, .int x6), (7, .int x7)]) [1, 0, 2, 3] dX12_beats_63 (by decide) rfl ?_
      refine aw_iinc (ls' := [(0, .ref (ad 12 0 0)), (4, .long v_5), (6, .int x6), (7, .int (x7 + 1))]) (x7 + 1) 3 [1, 2, 3, 0] dX12_beats_65 rfl (by rfl) (by decide) rfl ?_
      refine aw_goto 38 dX12_beats_68 (by decide) ?_
      exact ih v_5 (x7 + 1)
def F12_beats_L28 (σ : Mem)  : Nat → Int64 → Int32 → Option (Int64)
  | 0 => fun _ _ => none
  | n + 1 => fun y4 x6 =>
    if 101 ≤ x6 then (some y4) else ((F12_beats_L38 σ x6 fuelK y4 0).bind fun r_6 => (F12_beats_L28 σ n) r_6 (x6 + 1))
set_option maxRecDepth 20000 in
theorem c12_beats_L28 {l : Launch} {D : va_G} {ad : Nat → Nat → Nat → Nat} {cid : Nat → Nat → Nat → ClassId} {α : Type} {emb : α → Option Value} (σ : Mem)  {G : Int64 → Option (α × Mem)} (kx : ∀ r, AW (XM l D ad cid) M12_beats 6 emb [(4, .long r)] 77 [] σ (G r)) : ∀ (n : Nat) (y4 : Int64) (x6 : Int32), AW (XM l D ad cid) M12_beats 6 emb [(0, .ref (ad 12 0 0)), (4, .long y4), (6, .int x6)] 28 [] σ ((F12_beats_L28 σ  n y4 x6).bind G) := by
  intro n
  induction n with
  | zero => intros; exact aw_none
  | succ n ih =>
    intro y4 x6
    rw [F12_beats_L28.eq_2]
    refine aw_iload 2 dX12_beats_28 rfl ?_
    refine aw_bipush 101 dX12_beats_30 (by decide) ?_
    refine aw_icmp_ge 77 dX12_beats_32 (by decide) ?_ ?_
    · refine aw_ls (ls' := [(4, .long y4)]) [1] rfl ?_
      exact kx y4
    · refine aw_iconst 0 dX12_beats_35 (by decide) ?_
      refine aw_istore (ls' := [(0, .ref (ad 12 0 0)), (4, .long y4), (6, .int x6), (7, .int 0)]) [1, 2, 3, 0] dX12_beats_36 (by decide) rfl ?_
      refine aw_assoc ?_
      refine c12_beats_L38 σ x6 (fun r_6 => ?_) fuelK y4 0
      refine aw_iinc (ls' := [(0, .ref (ad 12 0 0)), (4, .long r_6), (6, .int (x6 + 1))]) (x6 + 1) 2 [1, 2, 0] dX12_beats_71 rfl (by rfl) (by decide) rfl ?_
      refine aw_goto 28 dX12_beats_74 (by decide) ?_
      exact ih r_6 (x6 + 1)
def F12_beats (σ : Mem) (x1 : Int32) (x2 : Int32) (x3 : Int32) : Option (Int64 × Mem) :=
  bd (F12_sumUp σ x1 x3 1 12 0 9 101) fun _ s_1 => bd (F12_sumUp s_1 x2 x3 1 12 0 10 101) fun _ s_2 => (F12_beats_L28 s_2  fuelK 0 0).bind fun r_7 => some (r_7, s_2)
set_option maxRecDepth 20000 in
theorem c12_beats {l : Launch} {D : va_G} {ad : Nat → Nat → Nat → Nat} {cid : Nat → Nat → Nat → ClassId} (σ : Mem) (x1 : Int32) (x2 : Int32) (x3 : Int32) : AMF (XM l D ad cid) M12_beats 6 eL [.ref (ad 12 0 0), .int x1, .int x2, .int x3] σ (F12_beats σ x1 x2 x3) := by
  refine AM.ofW (by decide +kernel) (Nat.le_of_ble_eq_true rfl) (ls := [(0, .ref (ad 12 0 0)), (1, .int x1), (2, .int x2), (3, .int x3)]) rfl ?_
  refine aw_entry ?_
  unfold F12_beats
  refine aw_aload_n 0 dX12_beats_0 rfl rfl ?_
  refine aw_iload_n 1 dX12_beats_1 rfl rfl ?_
  refine aw_iload_n 3 dX12_beats_2 rfl rfl ?_
  refine aw_iconst 1 dX12_beats_3 (by decide) ?_
  refine aw_aload_n 0 dX12_beats_4 rfl rfl ?_
  refine aw_getf (fg_12_37 (by decide)) ci_12 (by decide) w_1493 dX12_beats_5 ?_
  refine aw_callVW_U (c12_sumUp σ x1 x3 1 12 0 9 101 (ar_12_9 (by decide))) (io_12 (by decide)) ci_12 (by decide) mk_12_sumUp w_2108 w_121 w_2106 rfl rfl (Nat.le_of_ble_eq_true rfl) dX12_beats_8 (fun _ s_1 => ?_)
  refine aw_aload_n 0 dX12_beats_11 rfl rfl ?_
  refine aw_iload_n 2 dX12_beats_12 rfl rfl ?_
  refine aw_iload_n 3 dX12_beats_13 rfl rfl ?_
  refine aw_iconst 1 dX12_beats_14 (by decide) ?_
  refine aw_aload_n 0 dX12_beats_15 rfl rfl ?_
  refine aw_getf (fg_12_38 (by decide)) ci_12 (by decide) w_1494 dX12_beats_16 ?_
  refine aw_callVW_U (c12_sumUp s_1 x2 x3 1 12 0 10 101 (ar_12_10 (by decide))) (io_12 (by decide)) ci_12 (by decide) mk_12_sumUp w_2108 w_121 w_2106 rfl rfl (Nat.le_of_ble_eq_true rfl) dX12_beats_19 (fun _ s_2 => ?_)
  refine aw_lconst 0 dX12_beats_22 (by decide) ?_
  refine aw_lstore (ls' := [(0, .ref (ad 12 0 0)), (4, .long 0)]) [1, 0] dX12_beats_23 (by decide) rfl ?_
  refine aw_iconst 0 dX12_beats_25 (by decide) ?_
  refine aw_istore (ls' := [(0, .ref (ad 12 0 0)), (4, .long 0), (6, .int 0)]) [1, 2, 0] dX12_beats_26 (by decide) rfl ?_
  refine aw_assoc ?_
  refine c12_beats_L28 s_2  (fun r_7 => ?_) fuelK 0 0
  refine aw_lload 0 dX12_beats_77 rfl ?_
  exact aw_lreturn rfl dX12_beats_79
def F12_decides (σ : Mem) (x1 : Int32) (x2 : Int32) (x3 : Int32) : Option (Int64 × Mem) :=
  bd (F12_beats σ x1 x2 x3) fun v_1 s_2 => bd (F12_beats s_2 x2 x1 x3) fun v_3 s_4 => some ((v_1 + v_3), s_4)
set_option maxRecDepth 20000 in
theorem c12_decides {l : Launch} {D : va_G} {ad : Nat → Nat → Nat → Nat} {cid : Nat → Nat → Nat → ClassId} (σ : Mem) (x1 : Int32) (x2 : Int32) (x3 : Int32) : AMF (XM l D ad cid) M12_decides 7 eL [.ref (ad 12 0 0), .int x1, .int x2, .int x3] σ (F12_decides σ x1 x2 x3) := by
  refine AM.ofW (by decide +kernel) (Nat.le_of_ble_eq_true rfl) (ls := [(0, .ref (ad 12 0 0)), (1, .int x1), (2, .int x2), (3, .int x3)]) rfl ?_
  refine aw_entry ?_
  unfold F12_decides
  refine aw_aload_n 0 dX12_decides_0 rfl rfl ?_
  refine aw_iload_n 1 dX12_decides_1 rfl rfl ?_
  refine aw_iload_n 2 dX12_decides_2 rfl rfl ?_
  refine aw_iload_n 3 dX12_decides_3 rfl rfl ?_
  refine aw_callVW_L (c12_beats σ x1 x2 x3) (io_12 (by decide)) ci_12 (by decide) mk_12_beats w_2132 w_126 w_2130 rfl rfl (Nat.le_of_ble_eq_true rfl) dX12_decides_4 (fun v_1 s_2 => ?_)
  refine aw_aload_n 0 dX12_decides_7 rfl rfl ?_
  refine aw_iload_n 2 dX12_decides_8 rfl rfl ?_
  refine aw_iload_n 1 dX12_decides_9 rfl rfl ?_
  refine aw_iload_n 3 dX12_decides_10 rfl rfl ?_
  refine aw_callVW_L (c12_beats s_2 x2 x1 x3) (io_12 (by decide)) ci_12 (by decide) mk_12_beats w_2132 w_126 w_2130 rfl rfl (Nat.le_of_ble_eq_true rfl) dX12_decides_11 (fun v_3 s_4 => ?_)
  refine aw_ladd dX12_decides_14 ?_
  exact aw_lreturn rfl dX12_decides_15
def F12_knock_p182 (σ : Mem) (x2 : Int32) (x4 : Int32) (x5 : Int32) (x6 : Int32) (q1 : Int32) (q2 : Int32) : Option (Bool × Mem) :=
  (F12_numberOf σ q1 q2).bind fun v_12 => bnd (Int64.toInt32 v_12) fun v_13 => bd (F12_decides σ x4 x5 x2) fun v_14 s_15 => bd (F12_decides s_15 x6 v_13 x2) fun v_16 s_17 => bd (F12_decides s_17 x4 x6 x2) fun v_18 s_19 => bd (F12_decides s_19 x4 v_13 x2) fun v_20 s_21 => if v_14 = 0 then (bd (F12_no s_21 9) fun v_22 s_23 => some (v_22, s_23)) else (if v_16 = 0 then (bd (F12_no s_21 9) fun v_24 s_25 => some (v_24, s_25)) else (if v_18 = 0 then (bd (F12_no s_21 9) fun v_26 s_27 => some (v_26, s_27)) else (if v_20 = 0 then (bd (F12_no s_21 9) fun v_41 s_42 => some (v_41, s_42)) else (bd (F12_beats s_21 x4 x5 x2) fun v_28 s_29 => bd (F12_beats s_29 x6 v_13 x2) fun v_30 s_31 => bd (F12_beats s_31 x4 x6 x2) fun v_32 s_33 => bd (F12_beats s_33 v_13 x6 x2) fun v_34 s_35 => bd (F12_beats s_35 x4 v_13 x2) fun v_36 s_37 => bnd (v_28 * (((v_30 * v_32) * v_20) + ((v_34 * v_36) * v_18))) fun v_38 => bd (F12_fraction s_37 v_38 (((v_14 * v_16) * v_18) * v_20)) fun v_39 s_40 => some (v_39, s_40)))))
set_option maxRecDepth 20000 in
theorem c12_knock_p182 {l : Launch} {D : va_G} {ad : Nat → Nat → Nat → Nat} {cid : Nat → Nat → Nat → ClassId} (σ : Mem) (x2 : Int32) (x4 : Int32) (x5 : Int32) (x6 : Int32) (q1 : Int32) (q2 : Int32) : AW (XM l D ad cid) M12_knock 8 eB [(0, .ref (ad 12 0 0)), (2, .int x2), (4, .int x4), (5, .int x5), (6, .int x6)] 182 [.int q2, .int q1, .ref (ad 12 0 0)] σ ((F12_knock_p182 σ x2 x4 x5 x6 q1 q2).bind some) := by
  unfold F12_knock_p182
  refine aw_callVO_L (c12_numberOf σ q1 q2) (io_12 (by decide)) ci_12 (by decide) mk_12_numberOf w_2124 w_124 w_2122 rfl rfl (Nat.le_of_ble_eq_true rfl) dX12_knock_182 (fun v_12 => ?_)
  refine aw_l2i dX12_knock_185 ?_
  refine aw_bnd_int (fun v_13 => ?_)
  refine aw_istore (ls' := [(0, .ref (ad 12 0 0)), (2, .int x2), (4, .int x4), (5, .int x5), (6, .int x6), (7, .int v_13)]) [1, 2, 3, 4, 5, 0] dX12_knock_186 (by decide) rfl ?_
  refine aw_aload_n 0 dX12_knock_188 rfl rfl ?_
  refine aw_iload 2 dX12_knock_189 rfl ?_
  refine aw_iload 3 dX12_knock_191 rfl ?_
  refine aw_iload_n 1 dX12_knock_193 rfl rfl ?_
  refine aw_callVW_L (c12_decides σ x4 x5 x2) (io_12 (by decide)) ci_12 (by decide) mk_12_decides w_2128 w_125 w_2126 rfl rfl (Nat.le_of_ble_eq_true rfl) dX12_knock_194 (fun v_14 s_15 => ?_)
  refine aw_lstore (ls' := [(0, .ref (ad 12 0 0)), (2, .int x2), (4, .int x4), (5, .int x5), (6, .int x6), (7, .int v_13), (8, .long v_14)]) [1, 2, 3, 4, 5, 6, 0] dX12_knock_197 (by decide) rfl ?_
  refine aw_aload_n 0 dX12_knock_199 rfl rfl ?_
  refine aw_iload 4 dX12_knock_200 rfl ?_
  refine aw_iload 5 dX12_knock_202 rfl ?_
  refine aw_iload_n 1 dX12_knock_204 rfl rfl ?_
  refine aw_callVW_L (c12_decides s_15 x6 v_13 x2) (io_12 (by decide)) ci_12 (by decide) mk_12_decides w_2128 w_125 w_2126 rfl rfl (Nat.le_of_ble_eq_true rfl) dX12_knock_205 (fun v_16 s_17 => ?_)
  refine aw_lstore (ls' := [(0, .ref (ad 12 0 0)), (2, .int x2), (4, .int x4), (5, .int x5), (6, .int x6), (7, .int v_13), (8, .long v_14), (10, .long v_16)]) [1, 2, 3, 4, 5, 6, 7, 0] dX12_knock_208 (by decide) rfl ?_
  refine aw_aload_n 0 dX12_knock_210 rfl rfl ?_
  refine aw_iload 2 dX12_knock_211 rfl ?_
  refine aw_iload 4 dX12_knock_213 rfl ?_
  refine aw_iload_n 1 dX12_knock_215 rfl rfl ?_
  refine aw_callVW_L (c12_decides s_17 x4 x6 x2) (io_12 (by decide)) ci_12 (by decide) mk_12_decides w_2128 w_125 w_2126 rfl rfl (Nat.le_of_ble_eq_true rfl) dX12_knock_216 (fun v_18 s_19 => ?_)
  refine aw_lstore (ls' := [(0, .ref (ad 12 0 0)), (2, .int x2), (4, .int x4), (5, .int x5), (6, .int x6), (7, .int v_13), (8, .long v_14), (10, .long v_16), (12, .long v_18)]) [1, 2, 3, 4, 5, 6, 7, 8, 0] dX12_knock_219 (by decide) rfl ?_
  refine aw_aload_n 0 dX12_knock_221 rfl rfl ?_
  refine aw_iload 2 dX12_knock_222 rfl ?_
  refine aw_iload 5 dX12_knock_224 rfl ?_
  refine aw_iload_n 1 dX12_knock_226 rfl rfl ?_
  refine aw_callVW_L (c12_decides s_19 x4 v_13 x2) (io_12 (by decide)) ci_12 (by decide) mk_12_decides w_2128 w_125 w_2126 rfl rfl (Nat.le_of_ble_eq_true rfl) dX12_knock_227 (fun v_20 s_21 => ?_)
  refine aw_lstore (ls' := [(0, .ref (ad 12 0 0)), (2, .int x2), (4, .int x4), (5, .int x5), (6, .int x6), (7, .int v_13), (8, .long v_14), (10, .long v_16), (12, .long v_18), (14, .long v_20)]) [1, 2, 3, 4, 5, 6, 7, 8, 9, 0] dX12_knock_230 (by decide) rfl ?_
  refine aw_lload 6 dX12_knock_232 rfl ?_
  refine aw_lconst 0 dX12_knock_234 (by decide) ?_
  refine aw_lcmp dX12_knock_235 ?_
  refine aw_lif_eq 260 dX12_knock_236 (by decide) ?_ ?_
  · refine aw_aload_n 0 dX12_knock_260 rfl rfl ?_
    refine aw_bipush 9 dX12_knock_261 (by decide) ?_
    refine aw_callVW_B (c12_no s_21 9) (io_12 (by decide)) ci_12 (by decide) mk_12_no w_1658 w_49 w_1656 rfl rfl (Nat.le_of_ble_eq_true rfl) dX12_knock_263 (fun v_22 s_23 => ?_)
    exact aw_zreturn (b := v_22) rfl rfl dX12_knock_266
  · refine aw_lload 7 dX12_knock_239 rfl ?_
    refine aw_lconst 0 dX12_knock_241 (by decide) ?_
    refine aw_lcmp dX12_knock_242 ?_
    refine aw_lif_eq 260 dX12_knock_243 (by decide) ?_ ?_
    · refine aw_aload_n 0 dX12_knock_260 rfl rfl ?_
      refine aw_bipush 9 dX12_knock_261 (by decide) ?_
      refine aw_callVW_B (c12_no s_21 9) (io_12 (by decide)) ci_12 (by decide) mk_12_no w_1658 w_49 w_1656 rfl rfl (Nat.le_of_ble_eq_true rfl) dX12_knock_263 (fun v_24 s_25 => ?_)
      exact aw_zreturn (b := v_24) rfl rfl dX12_knock_266
    · refine aw_lload 8 dX12_knock_246 rfl ?_
      refine aw_lconst 0 dX12_knock_248 (by decide) ?_
      refine aw_lcmp dX12_knock_249 ?_
      refine aw_lif_eq 260 dX12_knock_250 (by decide) ?_ ?_
      · refine aw_aload_n 0 dX12_knock_260 rfl rfl ?_
        refine aw_bipush 9 dX12_knock_261 (by decide) ?_
        refine aw_callVW_B (c12_no s_21 9) (io_12 (by decide)) ci_12 (by decide) mk_12_no w_1658 w_49 w_1656 rfl rfl (Nat.le_of_ble_eq_true rfl) dX12_knock_263 (fun v_26 s_27 => ?_)
        exact aw_zreturn (b := v_26) rfl rfl dX12_knock_266
      · refine aw_lload 9 dX12_knock_253 rfl ?_
        refine aw_lconst 0 dX12_knock_255 (by decide) ?_
        refine aw_lcmp dX12_knock_256 ?_
        refine aw_lif_ne 267 dX12_knock_257 (by decide) ?_ ?_
        · refine aw_aload_n 0 dX12_knock_267 rfl rfl ?_
          refine aw_iload 2 dX12_knock_268 rfl ?_
          refine aw_iload 3 dX12_knock_270 rfl ?_
          refine aw_iload_n 1 dX12_knock_272 rfl rfl ?_
          refine aw_callVW_L (c12_beats s_21 x4 x5 x2) (io_12 (by decide)) ci_12 (by decide) mk_12_beats w_2132 w_126 w_2130 rfl rfl (Nat.le_of_ble_eq_true rfl) dX12_knock_273 (fun v_28 s_29 => ?_)
          refine aw_aload_n 0 dX12_knock_276 rfl rfl ?_
          refine aw_iload 4 dX12_knock_277 rfl ?_
          refine aw_iload 5 dX12_knock_279 rfl ?_
          refine aw_iload_n 1 dX12_knock_281 rfl rfl ?_
          refine aw_callVW_L (c12_beats s_29 x6 v_13 x2) (io_12 (by decide)) ci_12 (by decide) mk_12_beats w_2132 w_126 w_2130 rfl rfl (Nat.le_of_ble_eq_true rfl) dX12_knock_282 (fun v_30 s_31 => ?_)
          refine aw_aload_n 0 dX12_knock_285 rfl rfl ?_
          refine aw_iload 2 dX12_knock_286 rfl ?_
          refine aw_iload 4 dX12_knock_288 rfl ?_
          refine aw_iload_n 1 dX12_knock_290 rfl rfl ?_
          refine aw_callVW_L (c12_beats s_31 x4 x6 x2) (io_12 (by decide)) ci_12 (by decide) mk_12_beats w_2132 w_126 w_2130 rfl rfl (Nat.le_of_ble_eq_true rfl) dX12_knock_291 (fun v_32 s_33 => ?_)
          refine aw_lmul dX12_knock_294 ?_
          refine aw_lload 9 dX12_knock_295 rfl ?_
          refine aw_lmul dX12_knock_297 ?_
          refine aw_aload_n 0 dX12_knock_298 rfl rfl ?_
          refine aw_iload 5 dX12_knock_299 rfl ?_
          refine aw_iload 4 dX12_knock_301 rfl ?_
          refine aw_iload_n 1 dX12_knock_303 rfl rfl ?_
          refine aw_callVW_L (c12_beats s_33 v_13 x6 x2) (io_12 (by decide)) ci_12 (by decide) mk_12_beats w_2132 w_126 w_2130 rfl rfl (Nat.le_of_ble_eq_true rfl) dX12_knock_304 (fun v_34 s_35 => ?_)
          refine aw_aload_n 0 dX12_knock_307 rfl rfl ?_
          refine aw_iload 2 dX12_knock_308 rfl ?_
          refine aw_iload 5 dX12_knock_310 rfl ?_
          refine aw_iload_n 1 dX12_knock_312 rfl rfl ?_
          refine aw_callVW_L (c12_beats s_35 x4 v_13 x2) (io_12 (by decide)) ci_12 (by decide) mk_12_beats w_2132 w_126 w_2130 rfl rfl (Nat.le_of_ble_eq_true rfl) dX12_knock_313 (fun v_36 s_37 => ?_)
          refine aw_lmul dX12_knock_316 ?_
          refine aw_lload 8 dX12_knock_317 rfl ?_
          refine aw_lmul dX12_knock_319 ?_
          refine aw_ladd dX12_knock_320 ?_
          refine aw_lmul dX12_knock_321 ?_
          refine aw_bnd_long (fun v_38 => ?_)
          refine aw_lstore (ls' := [(0, .ref (ad 12 0 0)), (8, .long v_14), (10, .long v_16), (12, .long v_18), (14, .long v_20), (16, .long v_38)]) [1, 7, 8, 9, 10, 0] dX12_knock_322 (by decide) rfl ?_
          refine aw_aload_n 0 dX12_knock_324 rfl rfl ?_
          refine aw_lload 5 dX12_knock_325 rfl ?_
          refine aw_lload 1 dX12_knock_327 rfl ?_
          refine aw_lload 2 dX12_knock_329 rfl ?_
          refine aw_lmul dX12_knock_331 ?_
          refine aw_lload 3 dX12_knock_332 rfl ?_
          refine aw_lmul dX12_knock_334 ?_
          refine aw_lload 4 dX12_knock_335 rfl ?_
          refine aw_lmul dX12_knock_337 ?_
          refine aw_callVW_B (c12_fraction s_37 v_38 (((v_14 * v_16) * v_18) * v_20)) (io_12 (by decide)) ci_12 (by decide) mk_12_fraction w_2050 w_117 w_2048 rfl rfl (Nat.le_of_ble_eq_true rfl) dX12_knock_338 (fun v_39 s_40 => ?_)
          exact aw_zreturn (b := v_39) rfl rfl dX12_knock_341
        · refine aw_aload_n 0 dX12_knock_260 rfl rfl ?_
          refine aw_bipush 9 dX12_knock_261 (by decide) ?_
          refine aw_callVW_B (c12_no s_21 9) (io_12 (by decide)) ci_12 (by decide) mk_12_no w_1658 w_49 w_1656 rfl rfl (Nat.le_of_ble_eq_true rfl) dX12_knock_263 (fun v_41 s_42 => ?_)
          exact aw_zreturn (b := v_41) rfl rfl dX12_knock_266
def F12_knock_p164 (σ : Mem) (x1 : Int32) (x2 : Int32) (x3 : Int32) (x4 : Int32) (x5 : Int32) (q1 : Int32) (q2 : Int32) : Option (Bool × Mem) :=
  (F12_numberOf σ q1 q2).bind fun v_10 => bnd (Int64.toInt32 v_10) fun v_11 => if 2 ≤ x3 then (F12_knock_p182 σ x2 x4 x5 v_11 x1 1) else (F12_knock_p182 σ x2 x4 x5 v_11 x1 3)
set_option maxRecDepth 20000 in
theorem c12_knock_p164 {l : Launch} {D : va_G} {ad : Nat → Nat → Nat → Nat} {cid : Nat → Nat → Nat → ClassId} (σ : Mem) (x1 : Int32) (x2 : Int32) (x3 : Int32) (x4 : Int32) (x5 : Int32) (q1 : Int32) (q2 : Int32) : AW (XM l D ad cid) M12_knock 8 eB [(0, .ref (ad 12 0 0)), (1, .int x1), (2, .int x2), (3, .int x3), (4, .int x4), (5, .int x5)] 164 [.int q2, .int q1, .ref (ad 12 0 0)] σ ((F12_knock_p164 σ x1 x2 x3 x4 x5 q1 q2).bind some) := by
  unfold F12_knock_p164
  refine aw_callVO_L (c12_numberOf σ q1 q2) (io_12 (by decide)) ci_12 (by decide) mk_12_numberOf w_2124 w_124 w_2122 rfl rfl (Nat.le_of_ble_eq_true rfl) dX12_knock_164 (fun v_10 => ?_)
  refine aw_l2i dX12_knock_167 ?_
  refine aw_bnd_int (fun v_11 => ?_)
  refine aw_istore (ls' := [(0, .ref (ad 12 0 0)), (1, .int x1), (2, .int x2), (3, .int x3), (4, .int x4), (5, .int x5), (6, .int v_11)]) [1, 2, 3, 4, 5, 6, 0] dX12_knock_168 (by decide) rfl ?_
  refine aw_aload_n 0 dX12_knock_170 rfl rfl ?_
  refine aw_iload_n 1 dX12_knock_171 rfl rfl ?_
  refine aw_iload_n 3 dX12_knock_172 rfl rfl ?_
  refine aw_iconst 2 dX12_knock_173 (by decide) ?_
  refine aw_icmp_ge 181 dX12_knock_174 (by decide) ?_ ?_
  · refine aw_iconst 1 dX12_knock_181 (by decide) ?_
    refine aw_ls (ls' := [(0, .ref (ad 12 0 0)), (2, .int x2), (4, .int x4), (5, .int x5), (6, .int v_11)]) [0, 2, 4, 5, 6] rfl ?_
    exact c12_knock_p182 σ x2 x4 x5 v_11 x1 1
  · refine aw_iconst 3 dX12_knock_177 (by decide) ?_
    refine aw_goto 182 dX12_knock_178 (by decide) ?_
    refine aw_ls (ls' := [(0, .ref (ad 12 0 0)), (2, .int x2), (4, .int x4), (5, .int x5), (6, .int v_11)]) [0, 2, 4, 5, 6] rfl ?_
    exact c12_knock_p182 σ x2 x4 x5 v_11 x1 3
def F12_knock_L72 (x1 : Int32) (x2 : Int32) (x3 : Int32) : Nat → Mem → Int32 → Option (Bool × Mem)
  | 0 => fun _ _ => none
  | n + 1 => fun σ x4 =>
    if 4 ≤ x4 then (if (F12_isIn (Int32.toInt64 x3) 0 3) = true then ((F12_numberOf σ x1 x3).bind fun v_6 => bnd (Int64.toInt32 v_6) fun v_7 => (F12_numberOf σ x1 (x3 ^^^ 1)).bind fun v_8 => bnd (Int64.toInt32 v_8) fun v_9 => if 2 ≤ x3 then (F12_knock_p164 σ x1 x2 x3 v_7 v_9 x1 0) else (F12_knock_p164 σ x1 x2 x3 v_7 v_9 x1 2)) else (bd (F12_no σ 5) fun v_43 s_44 => some (v_43, s_44))) else ((F12_numberOf σ x1 x4).bind fun v_45 => (ald 3000 (gI σ 12 0 5) 6).bind fun v_46 => if (F12_isIn v_45 0 (Int32.toInt64 (v_46 - 1))) = true then ((F12_knock_L72 x1 x2 x3 n) σ (x4 + 1)) else (bd (F12_no σ 2) fun v_47 s_48 => some (v_47, s_48)))
set_option maxRecDepth 20000 in
theorem c12_knock_L72 {l : Launch} {D : va_G} {ad : Nat → Nat → Nat → Nat} {cid : Nat → Nat → Nat → ClassId} (x1 : Int32) (x2 : Int32) (x3 : Int32) : ∀ (n : Nat) (σ : Mem) (x4 : Int32), AW (XM l D ad cid) M12_knock 8 eB [(0, .ref (ad 12 0 0)), (1, .int x1), (2, .int x2), (3, .int x3), (4, .int x4)] 72 [] σ ((F12_knock_L72 x1 x2 x3 n σ x4).bind some) := by
  intro n
  induction n with
  | zero => intros; exact aw_none
  | succ n ih =>
    intro σ x4
    rw [F12_knock_L72.eq_2]
    refine aw_iload 4 dX12_knock_72 rfl ?_
    refine aw_iconst 4 dX12_knock_74 (by decide) ?_
    refine aw_icmp_ge 114 dX12_knock_75 (by decide) ?_ ?_
    · refine aw_iload_n 3 dX12_knock_114 rfl rfl ?_
      refine aw_i2l dX12_knock_115 ?_
      refine aw_lconst 0 dX12_knock_116 (by decide) ?_
      refine aw_ldc2 w_1979 dX12_knock_117 ?_
      refine aw_callST_B (c12_isIn σ (Int32.toInt64 x3) 0 3) (by decide) mk_12_isIn w_1752 w_1751 rfl rfl (Nat.le_of_ble_eq_true rfl) dX12_knock_120 ?_
      refine aw_bif_ne 132 dX12_knock_123 (by decide) ?_ ?_
      · refine aw_aload_n 0 dX12_knock_132 rfl rfl ?_
        refine aw_iload_n 1 dX12_knock_133 rfl rfl ?_
        refine aw_iload_n 3 dX12_knock_134 rfl rfl ?_
        refine aw_callVO_L (c12_numberOf σ x1 x3) (io_12 (by decide)) ci_12 (by decide) mk_12_numberOf w_2124 w_124 w_2122 rfl rfl (Nat.le_of_ble_eq_true rfl) dX12_knock_135 (fun v_6 => ?_)
        refine aw_l2i dX12_knock_138 ?_
        refine aw_bnd_int (fun v_7 => ?_)
        refine aw_istore (ls' := [(0, .ref (ad 12 0 0)), (1, .int x1), (2, .int x2), (3, .int x3), (4, .int v_7)]) [1, 2, 3, 4, 0] dX12_knock_139 (by decide) rfl ?_
        refine aw_aload_n 0 dX12_knock_141 rfl rfl ?_
        refine aw_iload_n 1 dX12_knock_142 rfl rfl ?_
        refine aw_iload_n 3 dX12_knock_143 rfl rfl ?_
        refine aw_iconst 1 dX12_knock_144 (by decide) ?_
        refine aw_ixor dX12_knock_145 ?_
        refine aw_callVO_L (c12_numberOf σ x1 (x3 ^^^ 1)) (io_12 (by decide)) ci_12 (by decide) mk_12_numberOf w_2124 w_124 w_2122 rfl rfl (Nat.le_of_ble_eq_true rfl) dX12_knock_146 (fun v_8 => ?_)
        refine aw_l2i dX12_knock_149 ?_
        refine aw_bnd_int (fun v_9 => ?_)
        refine aw_istore (ls' := [(0, .ref (ad 12 0 0)), (1, .int x1), (2, .int x2), (3, .int x3), (4, .int v_7), (5, .int v_9)]) [1, 2, 3, 4, 5, 0] dX12_knock_150 (by decide) rfl ?_
        refine aw_aload_n 0 dX12_knock_152 rfl rfl ?_
        refine aw_iload_n 1 dX12_knock_153 rfl rfl ?_
        refine aw_iload_n 3 dX12_knock_154 rfl rfl ?_
        refine aw_iconst 2 dX12_knock_155 (by decide) ?_
        refine aw_icmp_ge 163 dX12_knock_156 (by decide) ?_ ?_
        · refine aw_iconst 0 dX12_knock_163 (by decide) ?_
          exact c12_knock_p164 σ x1 x2 x3 v_7 v_9 x1 0
        · refine aw_iconst 2 dX12_knock_159 (by decide) ?_
          refine aw_goto 164 dX12_knock_160 (by decide) ?_
          exact c12_knock_p164 σ x1 x2 x3 v_7 v_9 x1 2
      · refine aw_aload_n 0 dX12_knock_126 rfl rfl ?_
        refine aw_iconst 5 dX12_knock_127 (by decide) ?_
        refine aw_callVW_B (c12_no σ 5) (io_12 (by decide)) ci_12 (by decide) mk_12_no w_1658 w_49 w_1656 rfl rfl (Nat.le_of_ble_eq_true rfl) dX12_knock_128 (fun v_43 s_44 => ?_)
        exact aw_zreturn (b := v_43) rfl rfl dX12_knock_131
    · refine aw_aload_n 0 dX12_knock_78 rfl rfl ?_
      refine aw_iload_n 1 dX12_knock_79 rfl rfl ?_
      refine aw_iload 4 dX12_knock_80 rfl ?_
      refine aw_callVO_L (c12_numberOf σ x1 x4) (io_12 (by decide)) ci_12 (by decide) mk_12_numberOf w_2124 w_124 w_2122 rfl rfl (Nat.le_of_ble_eq_true rfl) dX12_knock_82 (fun v_45 => ?_)
      refine aw_lconst 0 dX12_knock_85 (by decide) ?_
      refine aw_aload_n 0 dX12_knock_86 rfl rfl ?_
      refine aw_getf (fg_12_20 (by decide)) ci_12 (by decide) w_1476 dX12_knock_87 ?_
      refine aw_bipush 6 dX12_knock_90 (by decide) ?_
      refine aw_iaload (ar_12_5 (by decide)) dX12_knock_92 (fun v_46 => ?_)
      refine aw_iconst 1 dX12_knock_93 (by decide) ?_
      refine aw_isub dX12_knock_94 ?_
      refine aw_i2l dX12_knock_95 ?_
      refine aw_callST_B (c12_isIn σ v_45 0 (Int32.toInt64 (v_46 - 1))) (by decide) mk_12_isIn w_1752 w_1751 rfl rfl (Nat.le_of_ble_eq_true rfl) dX12_knock_96 ?_
      refine aw_bif_ne 108 dX12_knock_99 (by decide) ?_ ?_
      · refine aw_iinc (ls' := [(0, .ref (ad 12 0 0)), (1, .int x1), (2, .int x2), (3, .int x3), (4, .int (x4 + 1))]) (x4 + 1) 4 [1, 2, 3, 4, 0] dX12_knock_108 rfl (by rfl) (by decide) rfl ?_
        refine aw_goto 72 dX12_knock_111 (by decide) ?_
        exact ih σ (x4 + 1)
      · refine aw_aload_n 0 dX12_knock_102 rfl rfl ?_
        refine aw_iconst 2 dX12_knock_103 (by decide) ?_
        refine aw_callVW_B (c12_no σ 2) (io_12 (by decide)) ci_12 (by decide) mk_12_no w_1658 w_49 w_1656 rfl rfl (Nat.le_of_ble_eq_true rfl) dX12_knock_104 (fun v_47 s_48 => ?_)
        exact aw_zreturn (b := v_47) rfl rfl dX12_knock_107
def F12_knock (σ : Mem) (x1 : Int32) (x2 : Int32) (x3 : Int32) : Option (Bool × Mem) :=
  bnd (sI σ 12 0 0 1 0) fun s_1 => bnd (sI s_1 12 0 0 0 0) fun s_2 => if (F12_isTray x1) = true then ((ald 4 (gI s_2 12 0 2) x1).bind fun v_3 => if 0 ≤ v_3 then ((ald 4 (gI s_2 12 0 2) x1).bind fun v_4 => if 4 ≤ v_4 then ((F12_isPeaAt s_2 x2).bind fun v_5 => if v_5 = true then (F12_knock_L72 x1 x2 x3 fuelK s_2 0) else (bd (F12_no s_2 2) fun v_49 s_50 => some (v_49, s_50))) else (bd (F12_no s_2 4) fun v_51 s_52 => some (v_51, s_52))) else (bd (F12_no s_2 3) fun v_53 s_54 => some (v_53, s_54))) else (bd (F12_no s_2 1) fun v_55 s_56 => some (v_55, s_56))
set_option maxRecDepth 20000 in
theorem c12_knock {l : Launch} {D : va_G} {ad : Nat → Nat → Nat → Nat} {cid : Nat → Nat → Nat → ClassId} (σ : Mem) (x1 : Int32) (x2 : Int32) (x3 : Int32) : AMF (XM l D ad cid) M12_knock 8 eB [.ref (ad 12 0 0), .int x1, .int x2, .int x3] σ (F12_knock σ x1 x2 x3) := by
  refine AM.ofW (by decide +kernel) (Nat.le_of_ble_eq_true rfl) (ls := [(0, .ref (ad 12 0 0)), (1, .int x1), (2, .int x2), (3, .int x3)]) rfl ?_
  refine aw_entry ?_
  unfold F12_knock
  refine aw_aload_n 0 dX12_knock_0 rfl rfl ?_
  refine aw_iconst 0 dX12_knock_1 (by decide) ?_
  refine aw_putI (fs_12_1 (by decide)) ci_12 (by decide) rfl rfl w_1457 dX12_knock_2 ?_
  refine aw_bndM (fun s_1 => ?_)
  refine aw_aload_n 0 dX12_knock_5 rfl rfl ?_
  refine aw_iconst 0 dX12_knock_6 (by decide) ?_
  refine aw_putI (fs_12_0 (by decide)) ci_12 (by decide) rfl rfl w_1456 dX12_knock_7 ?_
  refine aw_bndM (fun s_2 => ?_)
  refine aw_aload_n 0 dX12_knock_10 rfl rfl ?_
  refine aw_iload_n 1 dX12_knock_11 rfl rfl ?_
  refine aw_callVT_B (c12_isTray s_2 x1) (io_12 (by decide)) ci_12 (by decide) mk_12_isTray w_2120 w_123 w_2118 rfl rfl (Nat.le_of_ble_eq_true rfl) dX12_knock_12 ?_
  refine aw_bif_ne 24 dX12_knock_15 (by decide) ?_ ?_
  · refine aw_aload_n 0 dX12_knock_24 rfl rfl ?_
    refine aw_getf (fg_12_5 (by decide)) ci_12 (by decide) w_1461 dX12_knock_25 ?_
    refine aw_iload_n 1 dX12_knock_28 rfl rfl ?_
    refine aw_iaload (ar_12_2 (by decide)) dX12_knock_29 (fun v_3 => ?_)
    refine aw_if_ge 39 dX12_knock_30 (by decide) ?_ ?_
    · refine aw_aload_n 0 dX12_knock_39 rfl rfl ?_
      refine aw_getf (fg_12_5 (by decide)) ci_12 (by decide) w_1461 dX12_knock_40 ?_
      refine aw_iload_n 1 dX12_knock_43 rfl rfl ?_
      refine aw_iaload (ar_12_2 (by decide)) dX12_knock_44 (fun v_4 => ?_)
      refine aw_iconst 4 dX12_knock_45 (by decide) ?_
      refine aw_icmp_ge 55 dX12_knock_46 (by decide) ?_ ?_
      · refine aw_aload_n 0 dX12_knock_55 rfl rfl ?_
        refine aw_iload_n 2 dX12_knock_56 rfl rfl ?_
        refine aw_callVO_B (c12_isPeaAt s_2 x2) (io_12 (by decide)) ci_12 (by decide) mk_12_isPeaAt w_1931 w_102 w_1929 rfl rfl (Nat.le_of_ble_eq_true rfl) dX12_knock_57 (fun v_5 => ?_)
        refine aw_bif_ne 69 dX12_knock_60 (by decide) ?_ ?_
        · refine aw_iconst 0 dX12_knock_69 (by decide) ?_
          refine aw_istore (ls' := [(0, .ref (ad 12 0 0)), (1, .int x1), (2, .int x2), (3, .int x3), (4, .int 0)]) [1, 2, 3, 4, 0] dX12_knock_70 (by decide) rfl ?_
          exact c12_knock_L72 x1 x2 x3 fuelK s_2 0
        · refine aw_aload_n 0 dX12_knock_63 rfl rfl ?_
          refine aw_iconst 2 dX12_knock_64 (by decide) ?_
          refine aw_callVW_B (c12_no s_2 2) (io_12 (by decide)) ci_12 (by decide) mk_12_no w_1658 w_49 w_1656 rfl rfl (Nat.le_of_ble_eq_true rfl) dX12_knock_65 (fun v_49 s_50 => ?_)
          exact aw_zreturn (b := v_49) rfl rfl dX12_knock_68
      · refine aw_aload_n 0 dX12_knock_49 rfl rfl ?_
        refine aw_iconst 4 dX12_knock_50 (by decide) ?_
        refine aw_callVW_B (c12_no s_2 4) (io_12 (by decide)) ci_12 (by decide) mk_12_no w_1658 w_49 w_1656 rfl rfl (Nat.le_of_ble_eq_true rfl) dX12_knock_51 (fun v_51 s_52 => ?_)
        exact aw_zreturn (b := v_51) rfl rfl dX12_knock_54
    · refine aw_aload_n 0 dX12_knock_33 rfl rfl ?_
      refine aw_iconst 3 dX12_knock_34 (by decide) ?_
      refine aw_callVW_B (c12_no s_2 3) (io_12 (by decide)) ci_12 (by decide) mk_12_no w_1658 w_49 w_1656 rfl rfl (Nat.le_of_ble_eq_true rfl) dX12_knock_35 (fun v_53 s_54 => ?_)
      exact aw_zreturn (b := v_53) rfl rfl dX12_knock_38
  · refine aw_aload_n 0 dX12_knock_18 rfl rfl ?_
    refine aw_iconst 1 dX12_knock_19 (by decide) ?_
    refine aw_callVW_B (c12_no s_2 1) (io_12 (by decide)) ci_12 (by decide) mk_12_no w_1658 w_49 w_1656 rfl rfl (Nat.le_of_ble_eq_true rfl) dX12_knock_20 (fun v_55 s_56 => ?_)
    exact aw_zreturn (b := v_55) rfl rfl dX12_knock_23
def F12_hole (σ : Mem) (x1 : Int32) (x2 : Int32) : Option (Int32 × Mem) :=
  bnd (sI σ 12 0 0 1 0) fun s_1 => bnd (sI s_1 12 0 0 0 0) fun s_2 => if (F12_isIn (Int32.toInt64 x2) 0 3) = true then ((ald 3000 (gI s_2 12 0 5) 8).bind fun v_3 => if (F12_isIn (Int32.toInt64 x1) 0 (Int32.toInt64 (v_3 - 1))) = true then ((ald 3000 (gI s_2 12 0 5) ((F12_holeAt x1) + x2)).bind fun v_6 => some (v_6, s_2)) else (bd (F12_refuse s_2 8) fun v_4 s_5 => some (v_4, s_5))) else (bd (F12_refuse s_2 5) fun v_7 s_8 => some (v_7, s_8))
set_option maxRecDepth 20000 in
theorem c12_hole {l : Launch} {D : va_G} {ad : Nat → Nat → Nat → Nat} {cid : Nat → Nat → Nat → ClassId} (σ : Mem) (x1 : Int32) (x2 : Int32) : AMF (XM l D ad cid) M12_hole 1 eI [.ref (ad 12 0 0), .int x1, .int x2] σ (F12_hole σ x1 x2) := by
  refine AM.ofW (by decide +kernel) (Nat.le_of_ble_eq_true rfl) (ls := [(0, .ref (ad 12 0 0)), (1, .int x1), (2, .int x2)]) rfl ?_
  refine aw_entry ?_
  unfold F12_hole
  refine aw_aload_n 0 dX12_hole_0 rfl rfl ?_
  refine aw_iconst 0 dX12_hole_1 (by decide) ?_
  refine aw_putI (fs_12_1 (by decide)) ci_12 (by decide) rfl rfl w_1457 dX12_hole_2 ?_
  refine aw_bndM (fun s_1 => ?_)
  refine aw_aload_n 0 dX12_hole_5 rfl rfl ?_
  refine aw_iconst 0 dX12_hole_6 (by decide) ?_
  refine aw_putI (fs_12_0 (by decide)) ci_12 (by decide) rfl rfl w_1456 dX12_hole_7 ?_
  refine aw_bndM (fun s_2 => ?_)
  refine aw_iload_n 2 dX12_hole_10 rfl rfl ?_
  refine aw_i2l dX12_hole_11 ?_
  refine aw_lconst 0 dX12_hole_12 (by decide) ?_
  refine aw_ldc2 w_1979 dX12_hole_13 ?_
  refine aw_callST_B (c12_isIn s_2 (Int32.toInt64 x2) 0 3) (by decide) mk_12_isIn w_1752 w_1751 rfl rfl (Nat.le_of_ble_eq_true rfl) dX12_hole_16 ?_
  refine aw_bif_ne 28 dX12_hole_19 (by decide) ?_ ?_
  · refine aw_iload_n 1 dX12_hole_28 rfl rfl ?_
    refine aw_i2l dX12_hole_29 ?_
    refine aw_lconst 0 dX12_hole_30 (by decide) ?_
    refine aw_aload_n 0 dX12_hole_31 rfl rfl ?_
    refine aw_getf (fg_12_20 (by decide)) ci_12 (by decide) w_1476 dX12_hole_32 ?_
    refine aw_bipush 8 dX12_hole_35 (by decide) ?_
    refine aw_iaload (ar_12_5 (by decide)) dX12_hole_37 (fun v_3 => ?_)
    refine aw_iconst 1 dX12_hole_38 (by decide) ?_
    refine aw_isub dX12_hole_39 ?_
    refine aw_i2l dX12_hole_40 ?_
    refine aw_callST_B (c12_isIn s_2 (Int32.toInt64 x1) 0 (Int32.toInt64 (v_3 - 1))) (by decide) mk_12_isIn w_1752 w_1751 rfl rfl (Nat.le_of_ble_eq_true rfl) dX12_hole_41 ?_
    refine aw_bif_eq 61 dX12_hole_44 (by decide) ?_ ?_
    · refine aw_aload_n 0 dX12_hole_61 rfl rfl ?_
      refine aw_bipush 8 dX12_hole_62 (by decide) ?_
      refine aw_callVW_I (c12_refuse s_2 8) (io_12 (by decide)) ci_12 (by decide) mk_12_refuse w_1919 w_101 w_1917 rfl rfl (Nat.le_of_ble_eq_true rfl) dX12_hole_64 (fun v_4 s_5 => ?_)
      exact aw_ireturn rfl dX12_hole_67
    · refine aw_aload_n 0 dX12_hole_47 rfl rfl ?_
      refine aw_getf (fg_12_20 (by decide)) ci_12 (by decide) w_1476 dX12_hole_48 ?_
      refine aw_iload_n 1 dX12_hole_51 rfl rfl ?_
      refine aw_callST_I (c12_holeAt s_2 x1) (by decide) mk_12_holeAt w_1954 w_1953 rfl rfl (Nat.le_of_ble_eq_true rfl) dX12_hole_52 ?_
      refine aw_iload_n 2 dX12_hole_55 rfl rfl ?_
      refine aw_iadd dX12_hole_56 ?_
      refine aw_iaload (ar_12_5 (by decide)) dX12_hole_57 (fun v_6 => ?_)
      refine aw_goto 67 dX12_hole_58 (by decide) ?_
      exact aw_ireturn rfl dX12_hole_67
  · refine aw_aload_n 0 dX12_hole_22 rfl rfl ?_
    refine aw_iconst 5 dX12_hole_23 (by decide) ?_
    refine aw_callVW_I (c12_refuse s_2 5) (io_12 (by decide)) ci_12 (by decide) mk_12_refuse w_1919 w_101 w_1917 rfl rfl (Nat.le_of_ble_eq_true rfl) dX12_hole_24 (fun v_7 s_8 => ?_)
    exact aw_ireturn rfl dX12_hole_27
def F12_sumHoles_L22 (x1 : Int32) (x2 : Int32) : Nat → Mem → Int32 → Option ((Unit) × Mem)
  | 0 => fun _ _ => none
  | n + 1 => fun σ x3 =>
    (ald 3000 (gI σ 12 0 5) 8).bind fun v_5 => if v_5 ≤ x3 then (some ((), σ)) else ((F12_isHoleOf σ x3 x1 x2).bind fun v_6 => if v_6 = true then ((ald 3000 (gI σ 12 0 5) (F12_holeAt x3)).bind fun v_7 => (ald 3000 (gI σ 12 0 5) ((F12_holeAt x3) + 1)).bind fun v_8 => bnd (sL σ 12 0 0 42 ((gL σ 12 0 0 42) + 1)) fun s_9 => bnd (sL s_9 12 0 0 43 ((gL s_9 12 0 0 43) + (Int32.toInt64 v_7))) fun s_10 => bnd (sL s_10 12 0 0 44 ((gL s_10 12 0 0 44) + (Int32.toInt64 v_8))) fun s_11 => bnd (sL s_11 12 0 0 45 ((gL s_11 12 0 0 45) + (Int32.toInt64 ((v_7 * v_7) + (v_8 * v_8))))) fun s_12 => (F12_sumHoles_L22 x1 x2 n) s_12 (x3 + 1)) else ((F12_sumHoles_L22 x1 x2 n) σ (x3 + 1)))
set_option maxRecDepth 20000 in
theorem c12_sumHoles_L22 {l : Launch} {D : va_G} {ad : Nat → Nat → Nat → Nat} {cid : Nat → Nat → Nat → ClassId} {α : Type} {emb : α → Option Value} (x1 : Int32) (x2 : Int32) {G : Unit → Mem → Option (α × Mem)} (kx : ∀ r σ, AW (XM l D ad cid) M12_sumHoles 2 emb [] 131 [] σ (G r σ)) : ∀ (n : Nat) (σ : Mem) (x3 : Int32), AW (XM l D ad cid) M12_sumHoles 2 emb [(0, .ref (ad 12 0 0)), (1, .int x1), (2, .int x2), (3, .int x3)] 22 [] σ (bd (F12_sumHoles_L22 x1 x2 n σ x3) G) := by
  intro n
  induction n with
  | zero => intros; exact aw_none
  | succ n ih =>
    intro σ x3
    refine aw_bdB ?_
    rw [F12_sumHoles_L22.eq_2]
    refine aw_iload_n 3 dX12_sumHoles_22 rfl rfl ?_
    refine aw_aload_n 0 dX12_sumHoles_23 rfl rfl ?_
    refine aw_getf (fg_12_20 (by decide)) ci_12 (by decide) w_1476 dX12_sumHoles_24 ?_
    refine aw_bipush 8 dX12_sumHoles_27 (by decide) ?_
    refine aw_iaload (ar_12_5 (by decide)) dX12_sumHoles_29 (fun v_5 => ?_)
    refine aw_icmp_ge 131 dX12_sumHoles_30 (by decide) ?_ ?_
    · refine aw_ls (ls' := []) [] rfl ?_
      exact kx () σ
    · refine aw_aload_n 0 dX12_sumHoles_33 rfl rfl ?_
      refine aw_iload_n 3 dX12_sumHoles_34 rfl rfl ?_
      refine aw_iload_n 1 dX12_sumHoles_35 rfl rfl ?_
      refine aw_iload_n 2 dX12_sumHoles_36 rfl rfl ?_
      refine aw_callVO_B (c12_isHoleOf σ x3 x1 x2) (io_12 (by decide)) ci_12 (by decide) mk_12_isHoleOf w_1951 w_106 w_1949 rfl rfl (Nat.le_of_ble_eq_true rfl) dX12_sumHoles_37 (fun v_6 => ?_)
      refine aw_bif_ne 46 dX12_sumHoles_40 (by decide) ?_ ?_
      · refine aw_aload_n 0 dX12_sumHoles_46 rfl rfl ?_
        refine aw_getf (fg_12_20 (by decide)) ci_12 (by decide) w_1476 dX12_sumHoles_47 ?_
        refine aw_iload_n 3 dX12_sumHoles_50 rfl rfl ?_
        refine aw_callST_I (c12_holeAt σ x3) (by decide) mk_12_holeAt w_1954 w_1953 rfl rfl (Nat.le_of_ble_eq_true rfl) dX12_sumHoles_51 ?_
        refine aw_iaload (ar_12_5 (by decide)) dX12_sumHoles_54 (fun v_7 => ?_)
        refine aw_istore (ls' := [(0, .ref (ad 12 0 0)), (1, .int x1), (2, .int x2), (3, .int x3), (4, .int v_7)]) [1, 2, 3, 4, 0] dX12_sumHoles_55 (by decide) rfl ?_
        refine aw_aload_n 0 dX12_sumHoles_57 rfl rfl ?_
        refine aw_getf (fg_12_20 (by decide)) ci_12 (by decide) w_1476 dX12_sumHoles_58 ?_
        refine aw_iload_n 3 dX12_sumHoles_61 rfl rfl ?_
        refine aw_callST_I (c12_holeAt σ x3) (by decide) mk_12_holeAt w_1954 w_1953 rfl rfl (Nat.le_of_ble_eq_true rfl) dX12_sumHoles_62 ?_
        refine aw_iconst 1 dX12_sumHoles_65 (by decide) ?_
        refine aw_iadd dX12_sumHoles_66 ?_
        refine aw_iaload (ar_12_5 (by decide)) dX12_sumHoles_67 (fun v_8 => ?_)
        refine aw_istore (ls' := [(0, .ref (ad 12 0 0)), (1, .int x1), (2, .int x2), (3, .int x3), (4, .int v_7), (5, .int v_8)]) [1, 2, 3, 4, 5, 0] dX12_sumHoles_68 (by decide) rfl ?_
        refine aw_aload_n 0 dX12_sumHoles_70 rfl rfl ?_
        refine aw_dup dX12_sumHoles_71 rfl ?_
        refine aw_getf (fg_12_42 (by decide)) ci_12 (by decide) w_1498 dX12_sumHoles_72 ?_
        refine aw_lconst 1 dX12_sumHoles_75 (by decide) ?_
        refine aw_ladd dX12_sumHoles_76 ?_
        refine aw_putL (fs_12_42 (by decide)) ci_12 (by decide) rfl rfl w_1498 dX12_sumHoles_77 ?_
        refine aw_bndM (fun s_9 => ?_)
        refine aw_aload_n 0 dX12_sumHoles_80 rfl rfl ?_
        refine aw_dup dX12_sumHoles_81 rfl ?_
        refine aw_getf (fg_12_43 (by decide)) ci_12 (by decide) w_1499 dX12_sumHoles_82 ?_
        refine aw_iload 4 dX12_sumHoles_85 rfl ?_
        refine aw_i2l dX12_sumHoles_87 ?_
        refine aw_ladd dX12_sumHoles_88 ?_
        refine aw_putL (fs_12_43 (by decide)) ci_12 (by decide) rfl rfl w_1499 dX12_sumHoles_89 ?_
        refine aw_bndM (fun s_10 => ?_)
        refine aw_aload_n 0 dX12_sumHoles_92 rfl rfl ?_
        refine aw_dup dX12_sumHoles_93 rfl ?_
        refine aw_getf (fg_12_44 (by decide)) ci_12 (by decide) w_1500 dX12_sumHoles_94 ?_
        refine aw_iload 5 dX12_sumHoles_97 rfl ?_
        refine aw_i2l dX12_sumHoles_99 ?_
        refine aw_ladd dX12_sumHoles_100 ?_
        refine aw_putL (fs_12_44 (by decide)) ci_12 (by decide) rfl rfl w_1500 dX12_sumHoles_101 ?_
        refine aw_bndM (fun s_11 => ?_)
        refine aw_aload_n 0 dX12_sumHoles_104 rfl rfl ?_
        refine aw_dup dX12_sumHoles_105 rfl ?_
        refine aw_getf (fg_12_45 (by decide)) ci_12 (by decide) w_1501 dX12_sumHoles_106 ?_
        refine aw_iload 4 dX12_sumHoles_109 rfl ?_
        refine aw_iload 4 dX12_sumHoles_111 rfl ?_
        refine aw_imul dX12_sumHoles_113 ?_
        refine aw_iload 5 dX12_sumHoles_114 rfl ?_
        refine aw_iload 5 dX12_sumHoles_116 rfl ?_
        refine aw_imul dX12_sumHoles_118 ?_
        refine aw_iadd dX12_sumHoles_119 ?_
        refine aw_i2l dX12_sumHoles_120 ?_
        refine aw_ladd dX12_sumHoles_121 ?_
        refine aw_putL (fs_12_45 (by decide)) ci_12 (by decide) rfl rfl w_1501 dX12_sumHoles_122 ?_
        refine aw_bndM (fun s_12 => ?_)
        refine aw_iinc (ls' := [(0, .ref (ad 12 0 0)), (1, .int x1), (2, .int x2), (3, .int (x3 + 1))]) (x3 + 1) 3 [1, 2, 3, 0] dX12_sumHoles_125 rfl (by rfl) (by decide) rfl ?_
        refine aw_goto 22 dX12_sumHoles_128 (by decide) ?_
        exact ih s_12 (x3 + 1)
      · refine aw_goto 125 dX12_sumHoles_43 (by decide) ?_
        refine aw_iinc (ls' := [(0, .ref (ad 12 0 0)), (1, .int x1), (2, .int x2), (3, .int (x3 + 1))]) (x3 + 1) 3 [1, 2, 3, 0] dX12_sumHoles_125 rfl (by rfl) (by decide) rfl ?_
        refine aw_goto 22 dX12_sumHoles_128 (by decide) ?_
        exact ih σ (x3 + 1)
def F12_sumHoles (σ : Mem) (x1 : Int32) (x2 : Int32) : Option (Unit × Mem) :=
  bnd (sL σ 12 0 0 42 0) fun s_1 => bnd (sL s_1 12 0 0 43 0) fun s_2 => bnd (sL s_2 12 0 0 44 0) fun s_3 => bnd (sL s_3 12 0 0 45 0) fun s_4 => bd (F12_sumHoles_L22 x1 x2 fuelK s_4 0) fun r_13 s_14 => some ((), s_14)
set_option maxRecDepth 20000 in
theorem c12_sumHoles {l : Launch} {D : va_G} {ad : Nat → Nat → Nat → Nat} {cid : Nat → Nat → Nat → ClassId} (σ : Mem) (x1 : Int32) (x2 : Int32) : AMF (XM l D ad cid) M12_sumHoles 2 eU [.ref (ad 12 0 0), .int x1, .int x2] σ (F12_sumHoles σ x1 x2) := by
  refine AM.ofW (by decide +kernel) (Nat.le_of_ble_eq_true rfl) (ls := [(0, .ref (ad 12 0 0)), (1, .int x1), (2, .int x2)]) rfl ?_
  refine aw_entry ?_
  unfold F12_sumHoles
  refine aw_aload_n 0 dX12_sumHoles_0 rfl rfl ?_
  refine aw_lconst 0 dX12_sumHoles_1 (by decide) ?_
  refine aw_putL (fs_12_42 (by decide)) ci_12 (by decide) rfl rfl w_1498 dX12_sumHoles_2 ?_
  refine aw_bndM (fun s_1 => ?_)
  refine aw_aload_n 0 dX12_sumHoles_5 rfl rfl ?_
  refine aw_lconst 0 dX12_sumHoles_6 (by decide) ?_
  refine aw_putL (fs_12_43 (by decide)) ci_12 (by decide) rfl rfl w_1499 dX12_sumHoles_7 ?_
  refine aw_bndM (fun s_2 => ?_)
  refine aw_aload_n 0 dX12_sumHoles_10 rfl rfl ?_
  refine aw_lconst 0 dX12_sumHoles_11 (by decide) ?_
  refine aw_putL (fs_12_44 (by decide)) ci_12 (by decide) rfl rfl w_1500 dX12_sumHoles_12 ?_
  refine aw_bndM (fun s_3 => ?_)
  refine aw_aload_n 0 dX12_sumHoles_15 rfl rfl ?_
  refine aw_lconst 0 dX12_sumHoles_16 (by decide) ?_
  refine aw_putL (fs_12_45 (by decide)) ci_12 (by decide) rfl rfl w_1501 dX12_sumHoles_17 ?_
  refine aw_bndM (fun s_4 => ?_)
  refine aw_iconst 0 dX12_sumHoles_20 (by decide) ?_
  refine aw_istore_n (ls' := [(0, .ref (ad 12 0 0)), (1, .int x1), (2, .int x2), (3, .int 0)]) [1, 2, 3, 0] dX12_sumHoles_21 rfl (by decide) rfl ?_
  refine aw_assocW ?_
  refine c12_sumHoles_L22 x1 x2 (fun r_13 s_14 => ?_) fuelK s_4 0
  exact aw_return rfl dX12_sumHoles_131
def F12_spread (σ : Mem)  : Int64 :=
  ((((gL σ 12 0 0 42) * (gL σ 12 0 0 45)) - ((gL σ 12 0 0 43) * (gL σ 12 0 0 43))) - ((gL σ 12 0 0 44) * (gL σ 12 0 0 44)))
set_option maxRecDepth 20000 in
theorem c12_spread {l : Launch} {D : va_G} {ad : Nat → Nat → Nat → Nat} {cid : Nat → Nat → Nat → ClassId} (σ : Mem)  : AMF (XM l D ad cid) M12_spread 0 eL [.ref (ad 12 0 0)] σ (some (F12_spread σ, σ)) := by
  refine AM.ofW (by decide +kernel) (Nat.le_of_ble_eq_true rfl) (ls := [(0, .ref (ad 12 0 0))]) rfl ?_
  refine aw_entryT ?_
  unfold F12_spread
  refine aw_aload_n 0 dX12_spread_0 rfl rfl ?_
  refine aw_getf (fg_12_42 (by decide)) ci_12 (by decide) w_1498 dX12_spread_1 ?_
  refine aw_aload_n 0 dX12_spread_4 rfl rfl ?_
  refine aw_getf (fg_12_45 (by decide)) ci_12 (by decide) w_1501 dX12_spread_5 ?_
  refine aw_lmul dX12_spread_8 ?_
  refine aw_aload_n 0 dX12_spread_9 rfl rfl ?_
  refine aw_getf (fg_12_43 (by decide)) ci_12 (by decide) w_1499 dX12_spread_10 ?_
  refine aw_aload_n 0 dX12_spread_13 rfl rfl ?_
  refine aw_getf (fg_12_43 (by decide)) ci_12 (by decide) w_1499 dX12_spread_14 ?_
  refine aw_lmul dX12_spread_17 ?_
  refine aw_lsub dX12_spread_18 ?_
  refine aw_aload_n 0 dX12_spread_19 rfl rfl ?_
  refine aw_getf (fg_12_44 (by decide)) ci_12 (by decide) w_1500 dX12_spread_20 ?_
  refine aw_aload_n 0 dX12_spread_23 rfl rfl ?_
  refine aw_getf (fg_12_44 (by decide)) ci_12 (by decide) w_1500 dX12_spread_24 ?_
  refine aw_lmul dX12_spread_27 ?_
  refine aw_lsub dX12_spread_28 ?_
  exact aw_lreturn rfl dX12_spread_29
def F12_lean_p42 (σ : Mem) (x1 : Int32) (x2 : Int32) (x3 : Int32) : Option (Bool × Mem) :=
  if (F12_isIn (Int32.toInt64 x3) 0 2) = true then (bd (F12_sumHoles σ x1 x2) fun _ s_3 => if (gL s_3 12 0 0 42) = 0 then (bd (F12_no s_3 8) fun v_10 s_11 => some (v_10, s_11)) else (if x3 = 2 then (bd (F12_fraction s_3 (F12_spread s_3) ((gL s_3 12 0 0 42) * (gL s_3 12 0 0 42))) fun v_8 s_9 => some (v_8, s_9)) else (if x3 = 0 then (bd (F12_fraction s_3 (gL s_3 12 0 0 43) (gL s_3 12 0 0 42)) fun v_6 s_7 => some (v_6, s_7)) else (bd (F12_fraction s_3 (gL s_3 12 0 0 44) (gL s_3 12 0 0 42)) fun v_4 s_5 => some (v_4, s_5))))) else (bd (F12_no σ 5) fun v_12 s_13 => some (v_12, s_13))
set_option maxRecDepth 20000 in
theorem c12_lean_p42 {l : Launch} {D : va_G} {ad : Nat → Nat → Nat → Nat} {cid : Nat → Nat → Nat → ClassId} (σ : Mem) (x1 : Int32) (x2 : Int32) (x3 : Int32) : AW (XM l D ad cid) M12_lean 3 eB [(0, .ref (ad 12 0 0)), (1, .int x1), (2, .int x2), (3, .int x3)] 42 [] σ ((F12_lean_p42 σ x1 x2 x3).bind some) := by
  unfold F12_lean_p42
  refine aw_iload_n 3 dX12_lean_42 rfl rfl ?_
  refine aw_i2l dX12_lean_43 ?_
  refine aw_lconst 0 dX12_lean_44 (by decide) ?_
  refine aw_ldc2 w_2105 dX12_lean_45 ?_
  refine aw_callST_B (c12_isIn σ (Int32.toInt64 x3) 0 2) (by decide) mk_12_isIn w_1752 w_1751 rfl rfl (Nat.le_of_ble_eq_true rfl) dX12_lean_48 ?_
  refine aw_bif_ne 60 dX12_lean_51 (by decide) ?_ ?_
  · refine aw_aload_n 0 dX12_lean_60 rfl rfl ?_
    refine aw_iload_n 1 dX12_lean_61 rfl rfl ?_
    refine aw_iload_n 2 dX12_lean_62 rfl rfl ?_
    refine aw_callVW_U (c12_sumHoles σ x1 x2) (io_12 (by decide)) ci_12 (by decide) mk_12_sumHoles w_2144 w_127 w_2142 rfl rfl (Nat.le_of_ble_eq_true rfl) dX12_lean_63 (fun _ s_3 => ?_)
    refine aw_aload_n 0 dX12_lean_66 rfl rfl ?_
    refine aw_getf (fg_12_42 (by decide)) ci_12 (by decide) w_1498 dX12_lean_67 ?_
    refine aw_lconst 0 dX12_lean_70 (by decide) ?_
    refine aw_lcmp dX12_lean_71 ?_
    refine aw_lif_ne 82 dX12_lean_72 (by decide) ?_ ?_
    · refine aw_iload_n 3 dX12_lean_82 rfl rfl ?_
      refine aw_iconst 2 dX12_lean_83 (by decide) ?_
      refine aw_icmp_ne 105 dX12_lean_84 (by decide) ?_ ?_
      · refine aw_aload_n 0 dX12_lean_105 rfl rfl ?_
        refine aw_iload_n 3 dX12_lean_106 rfl rfl ?_
        refine aw_if_ne 117 dX12_lean_107 (by decide) ?_ ?_
        · refine aw_aload_n 0 dX12_lean_117 rfl rfl ?_
          refine aw_getf (fg_12_44 (by decide)) ci_12 (by decide) w_1500 dX12_lean_118 ?_
          refine aw_aload_n 0 dX12_lean_121 rfl rfl ?_
          refine aw_getf (fg_12_42 (by decide)) ci_12 (by decide) w_1498 dX12_lean_122 ?_
          refine aw_callVW_B (c12_fraction s_3 (gL s_3 12 0 0 44) (gL s_3 12 0 0 42)) (io_12 (by decide)) ci_12 (by decide) mk_12_fraction w_2050 w_117 w_2048 rfl rfl (Nat.le_of_ble_eq_true rfl) dX12_lean_125 (fun v_4 s_5 => ?_)
          exact aw_zreturn (b := v_4) rfl rfl dX12_lean_128
        · refine aw_aload_n 0 dX12_lean_110 rfl rfl ?_
          refine aw_getf (fg_12_43 (by decide)) ci_12 (by decide) w_1499 dX12_lean_111 ?_
          refine aw_goto 121 dX12_lean_114 (by decide) ?_
          refine aw_aload_n 0 dX12_lean_121 rfl rfl ?_
          refine aw_getf (fg_12_42 (by decide)) ci_12 (by decide) w_1498 dX12_lean_122 ?_
          refine aw_callVW_B (c12_fraction s_3 (gL s_3 12 0 0 43) (gL s_3 12 0 0 42)) (io_12 (by decide)) ci_12 (by decide) mk_12_fraction w_2050 w_117 w_2048 rfl rfl (Nat.le_of_ble_eq_true rfl) dX12_lean_125 (fun v_6 s_7 => ?_)
          exact aw_zreturn (b := v_6) rfl rfl dX12_lean_128
      · refine aw_aload_n 0 dX12_lean_87 rfl rfl ?_
        refine aw_aload_n 0 dX12_lean_88 rfl rfl ?_
        refine aw_callVT_L (c12_spread s_3 ) (io_12 (by decide)) ci_12 (by decide) mk_12_spread w_2148 w_128 w_2146 rfl rfl (Nat.le_of_ble_eq_true rfl) dX12_lean_89 ?_
        refine aw_aload_n 0 dX12_lean_92 rfl rfl ?_
        refine aw_getf (fg_12_42 (by decide)) ci_12 (by decide) w_1498 dX12_lean_93 ?_
        refine aw_aload_n 0 dX12_lean_96 rfl rfl ?_
        refine aw_getf (fg_12_42 (by decide)) ci_12 (by decide) w_1498 dX12_lean_97 ?_
        refine aw_lmul dX12_lean_100 ?_
        refine aw_callVW_B (c12_fraction s_3 (F12_spread s_3) ((gL s_3 12 0 0 42) * (gL s_3 12 0 0 42))) (io_12 (by decide)) ci_12 (by decide) mk_12_fraction w_2050 w_117 w_2048 rfl rfl (Nat.le_of_ble_eq_true rfl) dX12_lean_101 (fun v_8 s_9 => ?_)
        exact aw_zreturn (b := v_8) rfl rfl dX12_lean_104
    · refine aw_aload_n 0 dX12_lean_75 rfl rfl ?_
      refine aw_bipush 8 dX12_lean_76 (by decide) ?_
      refine aw_callVW_B (c12_no s_3 8) (io_12 (by decide)) ci_12 (by decide) mk_12_no w_1658 w_49 w_1656 rfl rfl (Nat.le_of_ble_eq_true rfl) dX12_lean_78 (fun v_10 s_11 => ?_)
      exact aw_zreturn (b := v_10) rfl rfl dX12_lean_81
  · refine aw_aload_n 0 dX12_lean_54 rfl rfl ?_
    refine aw_iconst 5 dX12_lean_55 (by decide) ?_
    refine aw_callVW_B (c12_no σ 5) (io_12 (by decide)) ci_12 (by decide) mk_12_no w_1658 w_49 w_1656 rfl rfl (Nat.le_of_ble_eq_true rfl) dX12_lean_56 (fun v_12 s_13 => ?_)
    exact aw_zreturn (b := v_12) rfl rfl dX12_lean_59
def F12_lean_p23 (σ : Mem) (x1 : Int32) (x2 : Int32) (x3 : Int32) : Option (Bool × Mem) :=
  if x2 = (-1) then (F12_lean_p42 σ x1 x2 x3) else ((F12_isPeaAt σ x2).bind fun v_14 => if v_14 = true then (F12_lean_p42 σ x1 x2 x3) else (bd (F12_no σ 2) fun v_15 s_16 => some (v_15, s_16)))
set_option maxRecDepth 20000 in
theorem c12_lean_p23 {l : Launch} {D : va_G} {ad : Nat → Nat → Nat → Nat} {cid : Nat → Nat → Nat → ClassId} (σ : Mem) (x1 : Int32) (x2 : Int32) (x3 : Int32) : AW (XM l D ad cid) M12_lean 3 eB [(0, .ref (ad 12 0 0)), (1, .int x1), (2, .int x2), (3, .int x3)] 23 [] σ ((F12_lean_p23 σ x1 x2 x3).bind some) := by
  unfold F12_lean_p23
  refine aw_iload_n 2 dX12_lean_23 rfl rfl ?_
  refine aw_iconst (-1) dX12_lean_24 (by decide) ?_
  refine aw_icmp_eq 42 dX12_lean_25 (by decide) ?_ ?_
  · exact c12_lean_p42 σ x1 x2 x3
  · refine aw_aload_n 0 dX12_lean_28 rfl rfl ?_
    refine aw_iload_n 2 dX12_lean_29 rfl rfl ?_
    refine aw_callVO_B (c12_isPeaAt σ x2) (io_12 (by decide)) ci_12 (by decide) mk_12_isPeaAt w_1931 w_102 w_1929 rfl rfl (Nat.le_of_ble_eq_true rfl) dX12_lean_30 (fun v_14 => ?_)
    refine aw_bif_ne 42 dX12_lean_33 (by decide) ?_ ?_
    · exact c12_lean_p42 σ x1 x2 x3
    · refine aw_aload_n 0 dX12_lean_36 rfl rfl ?_
      refine aw_iconst 2 dX12_lean_37 (by decide) ?_
      refine aw_callVW_B (c12_no σ 2) (io_12 (by decide)) ci_12 (by decide) mk_12_no w_1658 w_49 w_1656 rfl rfl (Nat.le_of_ble_eq_true rfl) dX12_lean_38 (fun v_15 s_16 => ?_)
      exact aw_zreturn (b := v_15) rfl rfl dX12_lean_41
def F12_lean (σ : Mem) (x1 : Int32) (x2 : Int32) (x3 : Int32) : Option (Bool × Mem) :=
  bnd (sI σ 12 0 0 1 0) fun s_1 => bnd (sI s_1 12 0 0 0 0) fun s_2 => if x1 = (-1) then (F12_lean_p23 s_2 x1 x2 x3) else ((F12_isShooterAt s_2 x1).bind fun v_17 => if v_17 = true then (F12_lean_p23 s_2 x1 x2 x3) else (bd (F12_no s_2 2) fun v_18 s_19 => some (v_18, s_19)))
set_option maxRecDepth 20000 in
theorem c12_lean {l : Launch} {D : va_G} {ad : Nat → Nat → Nat → Nat} {cid : Nat → Nat → Nat → ClassId} (σ : Mem) (x1 : Int32) (x2 : Int32) (x3 : Int32) : AMF (XM l D ad cid) M12_lean 3 eB [.ref (ad 12 0 0), .int x1, .int x2, .int x3] σ (F12_lean σ x1 x2 x3) := by
  refine AM.ofW (by decide +kernel) (Nat.le_of_ble_eq_true rfl) (ls := [(0, .ref (ad 12 0 0)), (1, .int x1), (2, .int x2), (3, .int x3)]) rfl ?_
  refine aw_entry ?_
  unfold F12_lean
  refine aw_aload_n 0 dX12_lean_0 rfl rfl ?_
  refine aw_iconst 0 dX12_lean_1 (by decide) ?_
  refine aw_putI (fs_12_1 (by decide)) ci_12 (by decide) rfl rfl w_1457 dX12_lean_2 ?_
  refine aw_bndM (fun s_1 => ?_)
  refine aw_aload_n 0 dX12_lean_5 rfl rfl ?_
  refine aw_iconst 0 dX12_lean_6 (by decide) ?_
  refine aw_putI (fs_12_0 (by decide)) ci_12 (by decide) rfl rfl w_1456 dX12_lean_7 ?_
  refine aw_bndM (fun s_2 => ?_)
  refine aw_iload_n 1 dX12_lean_10 rfl rfl ?_
  refine aw_iconst (-1) dX12_lean_11 (by decide) ?_
  refine aw_icmp_eq 23 dX12_lean_12 (by decide) ?_ ?_
  · exact c12_lean_p23 s_2 x1 x2 x3
  · refine aw_aload_n 0 dX12_lean_15 rfl rfl ?_
    refine aw_iload_n 1 dX12_lean_16 rfl rfl ?_
    refine aw_callVO_B (c12_isShooterAt s_2 x1) (io_12 (by decide)) ci_12 (by decide) mk_12_isShooterAt w_1943 w_104 w_1941 rfl rfl (Nat.le_of_ble_eq_true rfl) dX12_lean_17 (fun v_17 => ?_)
    refine aw_bif_eq 36 dX12_lean_20 (by decide) ?_ ?_
    · refine aw_aload_n 0 dX12_lean_36 rfl rfl ?_
      refine aw_iconst 2 dX12_lean_37 (by decide) ?_
      refine aw_callVW_B (c12_no s_2 2) (io_12 (by decide)) ci_12 (by decide) mk_12_no w_1658 w_49 w_1656 rfl rfl (Nat.le_of_ble_eq_true rfl) dX12_lean_38 (fun v_18 s_19 => ?_)
      exact aw_zreturn (b := v_18) rfl rfl dX12_lean_41
    · exact c12_lean_p23 s_2 x1 x2 x3
