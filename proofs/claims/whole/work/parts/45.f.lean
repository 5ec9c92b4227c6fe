def F12_whose_L55 (x1 : Int32) (x2 : Int32) : Nat → Mem → Int32 → Int64 → Int64 → Int32 → Option ((Int32) × Mem)
  | 0 => fun _ _ _ _ _ => none
  | n + 1 => fun σ x3 y4 y6 x8 =>
    (ald 3000 (gI σ 12 0 5) 6).bind fun v_5 => if v_5 ≤ x8 then (some (x3, σ)) else (bd (F12_sumHoles σ x8 (-1)) fun _ s_6 => if (gL s_6 12 0 0 42) = 0 then ((F12_whose_L55 x1 x2 n) s_6 x3 y4 y6 (x8 + 1)) else (bnd (((gL s_6 12 0 0 42) * (Int32.toInt64 x1)) - (gL s_6 12 0 0 43)) fun v_7 => bnd (((gL s_6 12 0 0 42) * (Int32.toInt64 x2)) - (gL s_6 12 0 0 44)) fun v_8 => bnd ((v_7 * v_7) + (v_8 * v_8)) fun v_9 => if x3 < 0 then (bnd ((gL s_6 12 0 0 42) * (gL s_6 12 0 0 42)) fun v_10 => (F12_whose_L55 x1 x2 n) s_6 x8 v_9 v_10 (x8 + 1)) else (if (v_9 * y6) < ((y4 * (gL s_6 12 0 0 42)) * (gL s_6 12 0 0 42)) then (bnd ((gL s_6 12 0 0 42) * (gL s_6 12 0 0 42)) fun v_11 => (F12_whose_L55 x1 x2 n) s_6 x8 v_9 v_11 (x8 + 1)) else ((F12_whose_L55 x1 x2 n) s_6 x3 y4 y6 (x8 + 1)))))
set_option maxRecDepth 20000 in
theorem c12_whose_L55 {l : Launch} {D : va_G} {ad : Nat → Nat → Nat → Nat} {cid : Nat → Nat → Nat → ClassId} {α : Type} {emb : α → Option Value} (x1 : Int32) (x2 : Int32) {G : Int32 → Mem → Option (α × Mem)} (kx : ∀ r σ, AW (XM l D ad cid) M12_whose 3 emb [(0, .ref (ad 12 0 0)), (3, .int r)] 179 [] σ (G r σ)) : ∀ (n : Nat) (σ : Mem) (x3 : Int32) (y4 : Int64) (y6 : Int64) (x8 : Int32), AW (XM l D ad cid) M12_whose 3 emb [(0, .ref (ad 12 0 0)), (1, .int x1), (2, .int x2), (3, .int x3), (4, .long y4), (6, .long y6), (8, .int x8)] 55 [] σ (bd (F12_whose_L55 x1 x2 n σ x3 y4 y6 x8) G) := by
  intro n
  induction n with
  | zero => intros; exact aw_none
  | succ n ih =>
    intro σ x3 y4 y6 x8
    refine aw_bdB ?_
    rw [F12_whose_L55.eq_2]
    refine aw_iload 6 dX12_whose_55 rfl ?_
    refine aw_aload_n 0 dX12_whose_57 rfl rfl ?_
    refine aw_getf (fg_12_20 (by decide)) ci_12 (by decide) w_1476 dX12_whose_58 ?_
    refine aw_bipush 6 dX12_whose_61 (by decide) ?_
    refine aw_iaload (ar_12_5 (by decide)) dX12_whose_63 (fun v_5 => ?_)
    refine aw_icmp_ge 179 dX12_whose_64 (by decide) ?_ ?_
    · refine aw_ls (ls' := [(0, .ref (ad 12 0 0)), (3, .int x3)]) [0, 3] rfl ?_
      exact kx x3 σ
    · refine aw_aload_n 0 dX12_whose_67 rfl rfl ?_
      refine aw_iload 6 dX12_whose_68 rfl ?_
      refine aw_iconst (-1) dX12_whose_70 (by decide) ?_
      refine aw_callVW_U (c12_sumHoles σ x8 (-1)) (io_12 (by decide)) ci_12 (by decide) mk_12_sumHoles w_2144 w_127 w_2142 rfl rfl (Nat.le_of_ble_eq_true rfl) dX12_whose_71 (fun _ s_6 => ?_)
      refine aw_aload_n 0 dX12_whose_74 rfl rfl ?_
      refine aw_getf (fg_12_42 (by decide)) ci_12 (by decide) w_1498 dX12_whose_75 ?_
      refine aw_lconst 0 dX12_whose_78 (by decide) ?_
      refine aw_lcmp dX12_whose_79 ?_
      refine aw_lif_ne 86 dX12_whose_80 (by decide) ?_ ?_
      · refine aw_aload_n 0 dX12_whose_86 rfl rfl ?_
        refine aw_getf (fg_12_42 (by decide)) ci_12 (by decide) w_1498 dX12_whose_87 ?_
        refine aw_iload_n 1 dX12_whose_90 rfl rfl ?_
        refine aw_i2l dX12_whose_91 ?_
        refine aw_lmul dX12_whose_92 ?_
        refine aw_aload_n 0 dX12_whose_93 rfl rfl ?_
        refine aw_getf (fg_12_43 (by decide)) ci_12 (by decide) w_1499 dX12_whose_94 ?_
        refine aw_lsub dX12_whose_97 ?_
        refine aw_bnd_long (fun v_7 => ?_)
        refine aw_lstore (ls' := [(0, .ref (ad 12 0 0)), (1, .int x1), (2, .int x2), (3, .int x3), (4, .long y4), (6, .long y6), (8, .int x8), (9, .long v_7)]) [1, 2, 3, 4, 5, 6, 7, 0] dX12_whose_98 (by decide) rfl ?_
        refine aw_aload_n 0 dX12_whose_100 rfl rfl ?_
        refine aw_getf (fg_12_42 (by decide)) ci_12 (by decide) w_1498 dX12_whose_101 ?_
        refine aw_iload_n 2 dX12_whose_104 rfl rfl ?_
        refine aw_i2l dX12_whose_105 ?_
        refine aw_lmul dX12_whose_106 ?_
        refine aw_aload_n 0 dX12_whose_107 rfl rfl ?_
        refine aw_getf (fg_12_44 (by decide)) ci_12 (by decide) w_1500 dX12_whose_108 ?_
        refine aw_lsub dX12_whose_111 ?_
        refine aw_bnd_long (fun v_8 => ?_)
        refine aw_lstore (ls' := [(0, .ref (ad 12 0 0)), (1, .int x1), (2, .int x2), (3, .int x3), (4, .long y4), (6, .long y6), (8, .int x8), (9, .long v_7), (11, .long v_8)]) [1, 2, 3, 4, 5, 6, 7, 8, 0] dX12_whose_112 (by decide) rfl ?_
        refine aw_lload 7 dX12_whose_114 rfl ?_
        refine aw_lload 7 dX12_whose_116 rfl ?_
        refine aw_lmul dX12_whose_118 ?_
        refine aw_lload 8 dX12_whose_119 rfl ?_
        refine aw_lload 8 dX12_whose_121 rfl ?_
        refine aw_lmul dX12_whose_123 ?_
        refine aw_ladd dX12_whose_124 ?_
        refine aw_bnd_long (fun v_9 => ?_)
        refine aw_lstore (ls' := [(0, .ref (ad 12 0 0)), (1, .int x1), (2, .int x2), (3, .int x3), (4, .long y4), (6, .long y6), (8, .int x8), (13, .long v_9)]) [1, 2, 3, 4, 5, 6, 7, 0] dX12_whose_125 (by decide) rfl ?_
        refine aw_iload_n 3 dX12_whose_127 rfl rfl ?_
        refine aw_if_lt 155 dX12_whose_128 (by decide) ?_ ?_
        · refine aw_iload 6 dX12_whose_155 rfl ?_
          refine aw_istore_n (ls' := [(0, .ref (ad 12 0 0)), (1, .int x1), (2, .int x2), (3, .int x8), (8, .int x8), (13, .long v_9)]) [1, 2, 3, 0, 6, 7] dX12_whose_157 rfl (by decide) rfl ?_
          refine aw_lload 5 dX12_whose_158 rfl ?_
          refine aw_lstore (ls' := [(0, .ref (ad 12 0 0)), (1, .int x1), (2, .int x2), (3, .int x8), (4, .long v_9), (8, .int x8)]) [1, 2, 3, 4, 0, 5] dX12_whose_160 (by decide) rfl ?_
          refine aw_aload_n 0 dX12_whose_162 rfl rfl ?_
          refine aw_getf (fg_12_42 (by decide)) ci_12 (by decide) w_1498 dX12_whose_163 ?_
          refine aw_aload_n 0 dX12_whose_166 rfl rfl ?_
          refine aw_getf (fg_12_42 (by decide)) ci_12 (by decide) w_1498 dX12_whose_167 ?_
          refine aw_lmul dX12_whose_170 ?_
          refine aw_bnd_long (fun v_10 => ?_)
          refine aw_lstore (ls' := [(0, .ref (ad 12 0 0)), (1, .int x1), (2, .int x2), (3, .int x8), (4, .long v_9), (6, .long v_10), (8, .int x8)]) [1, 2, 3, 4, 5, 0, 6] dX12_whose_171 (by decide) rfl ?_
          refine aw_iinc (ls' := [(0, .ref (ad 12 0 0)), (1, .int x1), (2, .int x2), (3, .int x8), (4, .long v_9), (6, .long v_10), (8, .int (x8 + 1))]) (x8 + 1) 6 [1, 2, 3, 4, 5, 6, 0] dX12_whose_173 rfl (by rfl) (by decide) rfl ?_
          refine aw_goto 55 dX12_whose_176 (by decide) ?_
          exact ih s_6 x8 v_9 v_10 (x8 + 1)
        · refine aw_lload 7 dX12_whose_131 rfl ?_
          refine aw_lload 5 dX12_whose_133 rfl ?_
          refine aw_lmul dX12_whose_135 ?_
          refine aw_lload 4 dX12_whose_136 rfl ?_
          refine aw_aload_n 0 dX12_whose_138 rfl rfl ?_
          refine aw_getf (fg_12_42 (by decide)) ci_12 (by decide) w_1498 dX12_whose_139 ?_
          refine aw_lmul dX12_whose_142 ?_
          refine aw_aload_n 0 dX12_whose_143 rfl rfl ?_
          refine aw_getf (fg_12_42 (by decide)) ci_12 (by decide) w_1498 dX12_whose_144 ?_
          refine aw_lmul dX12_whose_147 ?_
          refine aw_lcmp dX12_whose_148 ?_
          refine aw_lif_lt 155 dX12_whose_149 (by decide) ?_ ?_
          · refine aw_iload 6 dX12_whose_155 rfl ?_
            refine aw_istore_n (ls' := [(0, .ref (ad 12 0 0)), (1, .int x1), (2, .int x2), (3, .int x8), (8, .int x8), (13, .long v_9)]) [1, 2, 3, 0, 6, 7] dX12_whose_157 rfl (by decide) rfl ?_
            refine aw_lload 5 dX12_whose_158 rfl ?_
            refine aw_lstore (ls' := [(0, .ref (ad 12 0 0)), (1, .int x1), (2, .int x2), (3, .int x8), (4, .long v_9), (8, .int x8)]) [1, 2, 3, 4, 0, 5] dX12_whose_160 (by decide) rfl ?_
            refine aw_aload_n 0 dX12_whose_162 rfl rfl ?_
            refine aw_getf (fg_12_42 (by decide)) ci_12 (by decide) w_1498 dX12_whose_163 ?_
            refine aw_aload_n 0 dX12_whose_166 rfl rfl ?_
            refine aw_getf (fg_12_42 (by decide)) ci_12 (by decide) w_1498 dX12_whose_167 ?_
            refine aw_lmul dX12_whose_170 ?_
            refine aw_bnd_long (fun v_11 => ?_)
            refine aw_lstore (ls' := [(0, .ref (ad 12 0 0)), (1, .int x1), (2, .int x2), (3, .int x8), (4, .long v_9), (6, .long v_11), (8, .int x8)]) [1, 2, 3, 4, 5, 0, 6] dX12_whose_171 (by decide) rfl ?_
            refine aw_iinc (ls' := [(0, .ref (ad 12 0 0)), (1, .int x1), (2, .int x2), (3, .int x8), (4, .long v_9), (6, .long v_11), (8, .int (x8 + 1))]) (x8 + 1) 6 [1, 2, 3, 4, 5, 6, 0] dX12_whose_173 rfl (by rfl) (by decide) rfl ?_
            refine aw_goto 55 dX12_whose_176 (by decide) ?_
            exact ih s_6 x8 v_9 v_11 (x8 + 1)
          · refine aw_goto 173 dX12_whose_152 (by decide) ?_
            refine aw_iinc (ls' := [(0, .ref (ad 12 0 0)), (1, .int x1), (2, .int x2), (3, .int x3), (4, .long y4), (6, .long y6), (8, .int (x8 + 1))]) (x8 + 1) 6 [1, 2, 3, 4, 5, 6, 0] dX12_whose_173 rfl (by rfl) (by decide) rfl ?_
            refine aw_goto 55 dX12_whose_176 (by decide) ?_
            exact ih s_6 x3 y4 y6 (x8 + 1)
      · refine aw_goto 173 dX12_whose_83 (by decide) ?_
        refine aw_iinc (ls' := [(0, .ref (ad 12 0 0)), (1, .int x1), (2, .int x2), (3, .int x3), (4, .long y4), (6, .long y6), (8, .int (x8 + 1))]) (x8 + 1) 6 [1, 2, 3, 4, 5, 6, 0] dX12_whose_173 rfl (by rfl) (by decide) rfl ?_
        refine aw_goto 55 dX12_whose_176 (by decide) ?_
        exact ih s_6 x3 y4 y6 (x8 + 1)
def F12_whose (σ : Mem) (x1 : Int32) (x2 : Int32) : Option (Int32 × Mem) :=
  bnd (sI σ 12 0 0 1 0) fun s_1 => bnd (sI s_1 12 0 0 0 0) fun s_2 => if (F12_isIn (Int32.toInt64 x1) (-99) 99) = true then (if (F12_isIn (Int32.toInt64 x2) (-99) 99) = true then (bd (F12_whose_L55 x1 x2 fuelK s_2 (-1) 0 1 0) fun r_12 s_13 => if 0 ≤ r_12 then (some (r_12, s_13)) else (bd (F12_refuse s_13 8) fun v_14 s_15 => some (v_14, s_15))) else (bd (F12_refuse s_2 5) fun v_16 s_17 => some (v_16, s_17))) else (bd (F12_refuse s_2 5) fun v_3 s_4 => some (v_3, s_4))
set_option maxRecDepth 20000 in
theorem c12_whose {l : Launch} {D : va_G} {ad : Nat → Nat → Nat → Nat} {cid : Nat → Nat → Nat → ClassId} (σ : Mem) (x1 : Int32) (x2 : Int32) : AMF (XM l D ad cid) M12_whose 3 eI [.ref (ad 12 0 0), .int x1, .int x2] σ (F12_whose σ x1 x2) := by
  refine AM.ofW (by decide +kernel) (Nat.le_of_ble_eq_true rfl) (ls := [(0, .ref (ad 12 0 0)), (1, .int x1), (2, .int x2)]) rfl ?_
  refine aw_entry ?_
  unfold F12_whose
  refine aw_aload_n 0 dX12_whose_0 rfl rfl ?_
  refine aw_iconst 0 dX12_whose_1 (by decide) ?_
  refine aw_putI (fs_12_1 (by decide)) ci_12 (by decide) rfl rfl w_1457 dX12_whose_2 ?_
  refine aw_bndM (fun s_1 => ?_)
  refine aw_aload_n 0 dX12_whose_5 rfl rfl ?_
  refine aw_iconst 0 dX12_whose_6 (by decide) ?_
  refine aw_putI (fs_12_0 (by decide)) ci_12 (by decide) rfl rfl w_1456 dX12_whose_7 ?_
  refine aw_bndM (fun s_2 => ?_)
  refine aw_iload_n 1 dX12_whose_10 rfl rfl ?_
  refine aw_i2l dX12_whose_11 ?_
  refine aw_ldc2 w_2154 dX12_whose_12 ?_
  refine aw_ldc2 w_2098 dX12_whose_15 ?_
  refine aw_callST_B (c12_isIn s_2 (Int32.toInt64 x1) (-99) 99) (by decide) mk_12_isIn w_1752 w_1751 rfl rfl (Nat.le_of_ble_eq_true rfl) dX12_whose_18 ?_
  refine aw_bif_eq 38 dX12_whose_21 (by decide) ?_ ?_
  · refine aw_aload_n 0 dX12_whose_38 rfl rfl ?_
    refine aw_iconst 5 dX12_whose_39 (by decide) ?_
    refine aw_callVW_I (c12_refuse s_2 5) (io_12 (by decide)) ci_12 (by decide) mk_12_refuse w_1919 w_101 w_1917 rfl rfl (Nat.le_of_ble_eq_true rfl) dX12_whose_40 (fun v_3 s_4 => ?_)
    exact aw_ireturn rfl dX12_whose_43
  · refine aw_iload_n 2 dX12_whose_24 rfl rfl ?_
    refine aw_i2l dX12_whose_25 ?_
    refine aw_ldc2 w_2154 dX12_whose_26 ?_
    refine aw_ldc2 w_2098 dX12_whose_29 ?_
    refine aw_callST_B (c12_isIn s_2 (Int32.toInt64 x2) (-99) 99) (by decide) mk_12_isIn w_1752 w_1751 rfl rfl (Nat.le_of_ble_eq_true rfl) dX12_whose_32 ?_
    refine aw_bif_ne 44 dX12_whose_35 (by decide) ?_ ?_
    · refine aw_iconst (-1) dX12_whose_44 (by decide) ?_
      refine aw_istore_n (ls' := [(0, .ref (ad 12 0 0)), (1, .int x1), (2, .int x2), (3, .int (-1))]) [1, 2, 3, 0] dX12_whose_45 rfl (by decide) rfl ?_
      refine aw_lconst 0 dX12_whose_46 (by decide) ?_
      refine aw_lstore (ls' := [(0, .ref (ad 12 0 0)), (1, .int x1), (2, .int x2), (3, .int (-1)), (4, .long 0)]) [1, 2, 3, 4, 0] dX12_whose_47 (by decide) rfl ?_
      refine aw_lconst 1 dX12_whose_49 (by decide) ?_
      refine aw_lstore (ls' := [(0, .ref (ad 12 0 0)), (1, .int x1), (2, .int x2), (3, .int (-1)), (4, .long 0), (6, .long 1)]) [1, 2, 3, 4, 5, 0] dX12_whose_50 (by decide) rfl ?_
      refine aw_iconst 0 dX12_whose_52 (by decide) ?_
      refine aw_istore (ls' := [(0, .ref (ad 12 0 0)), (1, .int x1), (2, .int x2), (3, .int (-1)), (4, .long 0), (6, .long 1), (8, .int 0)]) [1, 2, 3, 4, 5, 6, 0] dX12_whose_53 (by decide) rfl ?_
      refine aw_assocW ?_
      refine c12_whose_L55 x1 x2 (fun r_12 s_13 => ?_) fuelK s_2 (-1) 0 1 0
      refine aw_iload_n 1 dX12_whose_179 rfl rfl ?_
      refine aw_if_ge 192 dX12_whose_180 (by decide) ?_ ?_
      · refine aw_iload_n 1 dX12_whose_192 rfl rfl ?_
        exact aw_ireturn rfl dX12_whose_193
      · refine aw_aload_n 0 dX12_whose_183 rfl rfl ?_
        refine aw_bipush 8 dX12_whose_184 (by decide) ?_
        refine aw_callVW_I (c12_refuse s_13 8) (io_12 (by decide)) ci_12 (by decide) mk_12_refuse w_1919 w_101 w_1917 rfl rfl (Nat.le_of_ble_eq_true rfl) dX12_whose_186 (fun v_14 s_15 => ?_)
        refine aw_goto 193 dX12_whose_189 (by decide) ?_
        exact aw_ireturn rfl dX12_whose_193
    · refine aw_aload_n 0 dX12_whose_38 rfl rfl ?_
      refine aw_iconst 5 dX12_whose_39 (by decide) ?_
      refine aw_callVW_I (c12_refuse s_2 5) (io_12 (by decide)) ci_12 (by decide) mk_12_refuse w_1919 w_101 w_1917 rfl rfl (Nat.le_of_ble_eq_true rfl) dX12_whose_40 (fun v_16 s_17 => ?_)
      exact aw_ireturn rfl dX12_whose_43
def F12_worst_p82 (rc : Mem → Int32 → Int64 → Int64 → Int32 → Option ((Int32) × Mem)) (σ : Mem) (x1 : Int32) (x2 : Int32) (y3 : Int64) (y5 : Int64) (x7 : Int32) (q1 : Int32) (q2 : Int32) : Option ((Int32) × Mem) :=
  bd (F12_sumHoles σ q1 q2) fun _ s_4 => if (gL s_4 12 0 0 42) = 0 then (rc s_4 x2 y3 y5 (x7 + 1)) else (if x2 < 0 then (bnd (F12_spread s_4) fun v_5 => bnd ((gL s_4 12 0 0 42) * (gL s_4 12 0 0 42)) fun v_6 => rc s_4 x7 v_5 v_6 (x7 + 1)) else (if ((y3 * (gL s_4 12 0 0 42)) * (gL s_4 12 0 0 42)) < ((F12_spread s_4) * y5) then (bnd (F12_spread s_4) fun v_7 => bnd ((gL s_4 12 0 0 42) * (gL s_4 12 0 0 42)) fun v_8 => rc s_4 x7 v_7 v_8 (x7 + 1)) else (rc s_4 x2 y3 y5 (x7 + 1))))
set_option maxRecDepth 20000 in
theorem c12_worst_p82 {l : Launch} {D : va_G} {ad : Nat → Nat → Nat → Nat} {cid : Nat → Nat → Nat → ClassId} {α : Type} {emb : α → Option Value}  (x1 : Int32) {G : Int32 → Mem → Option (α × Mem)} (kx : ∀ r σ, AW (XM l D ad cid) M12_worst 3 emb [(0, .ref (ad 12 0 0)), (2, .int r)] 148 [] σ (G r σ)) {rc : Mem → Int32 → Int64 → Int64 → Int32 → Option ((Int32) × Mem)} (ih : ∀ (σ : Mem) (x2 : Int32) (y3 : Int64) (y5 : Int64) (x7 : Int32), AW (XM l D ad cid) M12_worst 3 emb [(0, .ref (ad 12 0 0)), (1, .int x1), (2, .int x2), (3, .long y3), (5, .long y5), (7, .int x7)] 36 [] σ (bd (rc σ x2 y3 y5 x7) G)) (σ : Mem) (x2 : Int32) (y3 : Int64) (y5 : Int64) (x7 : Int32) (q1 : Int32) (q2 : Int32) : AW (XM l D ad cid) M12_worst 3 emb [(0, .ref (ad 12 0 0)), (1, .int x1), (2, .int x2), (3, .long y3), (5, .long y5), (7, .int x7)] 82 [.int q2, .int q1, .ref (ad 12 0 0)] σ ((F12_worst_p82 rc σ x1 x2 y3 y5 x7 q1 q2).bind (fun q => G q.1 q.2)) := by
  unfold F12_worst_p82
  refine aw_callVW_U (c12_sumHoles σ q1 q2) (io_12 (by decide)) ci_12 (by decide) mk_12_sumHoles w_2144 w_127 w_2142 rfl rfl (Nat.le_of_ble_eq_true rfl) dX12_worst_82 (fun _ s_4 => ?_)
  refine aw_aload_n 0 dX12_worst_85 rfl rfl ?_
  refine aw_getf (fg_12_42 (by decide)) ci_12 (by decide) w_1498 dX12_worst_86 ?_
  refine aw_lconst 0 dX12_worst_89 (by decide) ?_
  refine aw_lcmp dX12_worst_90 ?_
  refine aw_lif_eq 142 dX12_worst_91 (by decide) ?_ ?_
  · refine aw_iinc (ls' := [(0, .ref (ad 12 0 0)), (1, .int x1), (2, .int x2), (3, .long y3), (5, .long y5), (7, .int (x7 + 1))]) (x7 + 1) 5 [1, 2, 3, 4, 5, 0] dX12_worst_142 rfl (by rfl) (by decide) rfl ?_
    refine aw_goto 36 dX12_worst_145 (by decide) ?_
    exact ih s_4 x2 y3 y5 (x7 + 1)
  · refine aw_iload_n 2 dX12_worst_94 rfl rfl ?_
    refine aw_if_lt 123 dX12_worst_95 (by decide) ?_ ?_
    · refine aw_iload 5 dX12_worst_123 rfl ?_
      refine aw_istore_n (ls' := [(0, .ref (ad 12 0 0)), (1, .int x1), (2, .int x7), (7, .int x7)]) [1, 2, 0, 5] dX12_worst_125 rfl (by decide) rfl ?_
      refine aw_aload_n 0 dX12_worst_126 rfl rfl ?_
      refine aw_callVT_L (c12_spread s_4 ) (io_12 (by decide)) ci_12 (by decide) mk_12_spread w_2148 w_128 w_2146 rfl rfl (Nat.le_of_ble_eq_true rfl) dX12_worst_127 ?_
      refine aw_bnd_long (fun v_5 => ?_)
      refine aw_lstore_n (ls' := [(0, .ref (ad 12 0 0)), (1, .int x1), (2, .int x7), (3, .long v_5), (7, .int x7)]) [1, 2, 3, 0, 4] dX12_worst_130 rfl (by decide) rfl ?_
      refine aw_aload_n 0 dX12_worst_131 rfl rfl ?_
      refine aw_getf (fg_12_42 (by decide)) ci_12 (by decide) w_1498 dX12_worst_132 ?_
      refine aw_aload_n 0 dX12_worst_135 rfl rfl ?_
      refine aw_getf (fg_12_42 (by decide)) ci_12 (by decide) w_1498 dX12_worst_136 ?_
      refine aw_lmul dX12_worst_139 ?_
      refine aw_bnd_long (fun v_6 => ?_)
      refine aw_lstore (ls' := [(0, .ref (ad 12 0 0)), (1, .int x1), (2, .int x7), (3, .long v_5), (5, .long v_6), (7, .int x7)]) [1, 2, 3, 4, 0, 5] dX12_worst_140 (by decide) rfl ?_
      refine aw_iinc (ls' := [(0, .ref (ad 12 0 0)), (1, .int x1), (2, .int x7), (3, .long v_5), (5, .long v_6), (7, .int (x7 + 1))]) (x7 + 1) 5 [1, 2, 3, 4, 5, 0] dX12_worst_142 rfl (by rfl) (by decide) rfl ?_
      refine aw_goto 36 dX12_worst_145 (by decide) ?_
      exact ih s_4 x7 v_5 v_6 (x7 + 1)
    · refine aw_aload_n 0 dX12_worst_98 rfl rfl ?_
      refine aw_callVT_L (c12_spread s_4 ) (io_12 (by decide)) ci_12 (by decide) mk_12_spread w_2148 w_128 w_2146 rfl rfl (Nat.le_of_ble_eq_true rfl) dX12_worst_99 ?_
      refine aw_lload 4 dX12_worst_102 rfl ?_
      refine aw_lmul dX12_worst_104 ?_
      refine aw_lload_n 3 dX12_worst_105 rfl rfl ?_
      refine aw_aload_n 0 dX12_worst_106 rfl rfl ?_
      refine aw_getf (fg_12_42 (by decide)) ci_12 (by decide) w_1498 dX12_worst_107 ?_
      refine aw_lmul dX12_worst_110 ?_
      refine aw_aload_n 0 dX12_worst_111 rfl rfl ?_
      refine aw_getf (fg_12_42 (by decide)) ci_12 (by decide) w_1498 dX12_worst_112 ?_
      refine aw_lmul dX12_worst_115 ?_
      refine aw_lcmp dX12_worst_116 ?_
      refine aw_lif_gt 123 dX12_worst_117 (by decide) ?_ ?_
      · refine aw_iload 5 dX12_worst_123 rfl ?_
        refine aw_istore_n (ls' := [(0, .ref (ad 12 0 0)), (1, .int x1), (2, .int x7), (7, .int x7)]) [1, 2, 0, 5] dX12_worst_125 rfl (by decide) rfl ?_
        refine aw_aload_n 0 dX12_worst_126 rfl rfl ?_
        refine aw_callVT_L (c12_spread s_4 ) (io_12 (by decide)) ci_12 (by decide) mk_12_spread w_2148 w_128 w_2146 rfl rfl (Nat.le_of_ble_eq_true rfl) dX12_worst_127 ?_
        refine aw_bnd_long (fun v_7 => ?_)
        refine aw_lstore_n (ls' := [(0, .ref (ad 12 0 0)), (1, .int x1), (2, .int x7), (3, .long v_7), (7, .int x7)]) [1, 2, 3, 0, 4] dX12_worst_130 rfl (by decide) rfl ?_
        refine aw_aload_n 0 dX12_worst_131 rfl rfl ?_
        refine aw_getf (fg_12_42 (by decide)) ci_12 (by decide) w_1498 dX12_worst_132 ?_
        refine aw_aload_n 0 dX12_worst_135 rfl rfl ?_
        refine aw_getf (fg_12_42 (by decide)) ci_12 (by decide) w_1498 dX12_worst_136 ?_
        refine aw_lmul dX12_worst_139 ?_
        refine aw_bnd_long (fun v_8 => ?_)
        refine aw_lstore (ls' := [(0, .ref (ad 12 0 0)), (1, .int x1), (2, .int x7), (3, .long v_7), (5, .long v_8), (7, .int x7)]) [1, 2, 3, 4, 0, 5] dX12_worst_140 (by decide) rfl ?_
        refine aw_iinc (ls' := [(0, .ref (ad 12 0 0)), (1, .int x1), (2, .int x7), (3, .long v_7), (5, .long v_8), (7, .int (x7 + 1))]) (x7 + 1) 5 [1, 2, 3, 4, 5, 0] dX12_worst_142 rfl (by rfl) (by decide) rfl ?_
        refine aw_goto 36 dX12_worst_145 (by decide) ?_
        exact ih s_4 x7 v_7 v_8 (x7 + 1)
      · refine aw_goto 142 dX12_worst_120 (by decide) ?_
        refine aw_iinc (ls' := [(0, .ref (ad 12 0 0)), (1, .int x1), (2, .int x2), (3, .long y3), (5, .long y5), (7, .int (x7 + 1))]) (x7 + 1) 5 [1, 2, 3, 4, 5, 0] dX12_worst_142 rfl (by rfl) (by decide) rfl ?_
        refine aw_goto 36 dX12_worst_145 (by decide) ?_
        exact ih s_4 x2 y3 y5 (x7 + 1)
def F12_worst_p72 (rc : Mem → Int32 → Int64 → Int64 → Int32 → Option ((Int32) × Mem)) (σ : Mem) (x1 : Int32) (x2 : Int32) (y3 : Int64) (y5 : Int64) (x7 : Int32) (q1 : Int32) : Option ((Int32) × Mem) :=
  if x1 = 0 then (F12_worst_p82 rc σ x1 x2 y3 y5 x7 q1 (-1)) else (F12_worst_p82 rc σ x1 x2 y3 y5 x7 q1 x7)
set_option maxRecDepth 20000 in
theorem c12_worst_p72 {l : Launch} {D : va_G} {ad : Nat → Nat → Nat → Nat} {cid : Nat → Nat → Nat → ClassId} {α : Type} {emb : α → Option Value}  (x1 : Int32) {G : Int32 → Mem → Option (α × Mem)} (kx : ∀ r σ, AW (XM l D ad cid) M12_worst 3 emb [(0, .ref (ad 12 0 0)), (2, .int r)] 148 [] σ (G r σ)) {rc : Mem → Int32 → Int64 → Int64 → Int32 → Option ((Int32) × Mem)} (ih : ∀ (σ : Mem) (x2 : Int32) (y3 : Int64) (y5 : Int64) (x7 : Int32), AW (XM l D ad cid) M12_worst 3 emb [(0, .ref (ad 12 0 0)), (1, .int x1), (2, .int x2), (3, .long y3), (5, .long y5), (7, .int x7)] 36 [] σ (bd (rc σ x2 y3 y5 x7) G)) (σ : Mem) (x2 : Int32) (y3 : Int64) (y5 : Int64) (x7 : Int32) (q1 : Int32) : AW (XM l D ad cid) M12_worst 3 emb [(0, .ref (ad 12 0 0)), (1, .int x1), (2, .int x2), (3, .long y3), (5, .long y5), (7, .int x7)] 72 [.int q1, .ref (ad 12 0 0)] σ ((F12_worst_p72 rc σ x1 x2 y3 y5 x7 q1).bind (fun q => G q.1 q.2)) := by
  unfold F12_worst_p72
  refine aw_iload_n 1 dX12_worst_72 rfl rfl ?_
  refine aw_if_ne 80 dX12_worst_73 (by decide) ?_ ?_
  · refine aw_iload 5 dX12_worst_80 rfl ?_
    exact c12_worst_p82 x1 kx ih σ x2 y3 y5 x7 q1 x7
  · refine aw_iconst (-1) dX12_worst_76 (by decide) ?_
    refine aw_goto 82 dX12_worst_77 (by decide) ?_
    exact c12_worst_p82 x1 kx ih σ x2 y3 y5 x7 q1 (-1)
def F12_worst_p58 (rc : Mem → Int32 → Int64 → Int64 → Int32 → Option ((Int32) × Mem)) (σ : Mem) (x1 : Int32) (x2 : Int32) (y3 : Int64) (y5 : Int64) (x7 : Int32) (q0 : Int32) (q1 : Int32) : Option ((Int32) × Mem) :=
  if q1 ≤ q0 then (some (x2, σ)) else (if x1 = 0 then (F12_worst_p72 rc σ x1 x2 y3 y5 x7 x7) else (F12_worst_p72 rc σ x1 x2 y3 y5 x7 (-1)))
set_option maxRecDepth 20000 in
theorem c12_worst_p58 {l : Launch} {D : va_G} {ad : Nat → Nat → Nat → Nat} {cid : Nat → Nat → Nat → ClassId} {α : Type} {emb : α → Option Value}  (x1 : Int32) {G : Int32 → Mem → Option (α × Mem)} (kx : ∀ r σ, AW (XM l D ad cid) M12_worst 3 emb [(0, .ref (ad 12 0 0)), (2, .int r)] 148 [] σ (G r σ)) {rc : Mem → Int32 → Int64 → Int64 → Int32 → Option ((Int32) × Mem)} (ih : ∀ (σ : Mem) (x2 : Int32) (y3 : Int64) (y5 : Int64) (x7 : Int32), AW (XM l D ad cid) M12_worst 3 emb [(0, .ref (ad 12 0 0)), (1, .int x1), (2, .int x2), (3, .long y3), (5, .long y5), (7, .int x7)] 36 [] σ (bd (rc σ x2 y3 y5 x7) G)) (σ : Mem) (x2 : Int32) (y3 : Int64) (y5 : Int64) (x7 : Int32) (q0 : Int32) (q1 : Int32) : AW (XM l D ad cid) M12_worst 3 emb [(0, .ref (ad 12 0 0)), (1, .int x1), (2, .int x2), (3, .long y3), (5, .long y5), (7, .int x7)] 58 [.int q1, .int q0] σ ((F12_worst_p58 rc σ x1 x2 y3 y5 x7 q0 q1).bind (fun q => G q.1 q.2)) := by
  unfold F12_worst_p58
  refine aw_icmp_ge 148 dX12_worst_58 (by decide) ?_ ?_
  · refine aw_ls (ls' := [(0, .ref (ad 12 0 0)), (2, .int x2)]) [0, 2] rfl ?_
    exact kx x2 σ
  · refine aw_aload_n 0 dX12_worst_61 rfl rfl ?_
    refine aw_iload_n 1 dX12_worst_62 rfl rfl ?_
    refine aw_if_ne 71 dX12_worst_63 (by decide) ?_ ?_
    · refine aw_iconst (-1) dX12_worst_71 (by decide) ?_
      exact c12_worst_p72 x1 kx ih σ x2 y3 y5 x7 (-1)
    · refine aw_iload 5 dX12_worst_66 rfl ?_
      refine aw_goto 72 dX12_worst_68 (by decide) ?_
      exact c12_worst_p72 x1 kx ih σ x2 y3 y5 x7 x7
def F12_worst_L36 (x1 : Int32) : Nat → Mem → Int32 → Int64 → Int64 → Int32 → Option ((Int32) × Mem)
  | 0 => fun _ _ _ _ _ => none
  | n + 1 => fun σ x2 y3 y5 x7 =>
    if x1 = 0 then ((ald 3000 (gI σ 12 0 5) 6).bind fun v_9 => F12_worst_p58 (F12_worst_L36 x1 n) σ x1 x2 y3 y5 x7 x7 v_9) else ((ald 3000 (gI σ 12 0 5) 5).bind fun v_3 => F12_worst_p58 (F12_worst_L36 x1 n) σ x1 x2 y3 y5 x7 x7 v_3)
set_option maxRecDepth 20000 in
theorem c12_worst_L36 {l : Launch} {D : va_G} {ad : Nat → Nat → Nat → Nat} {cid : Nat → Nat → Nat → ClassId} {α : Type} {emb : α → Option Value} (x1 : Int32) {G : Int32 → Mem → Option (α × Mem)} (kx : ∀ r σ, AW (XM l D ad cid) M12_worst 3 emb [(0, .ref (ad 12 0 0)), (2, .int r)] 148 [] σ (G r σ)) : ∀ (n : Nat) (σ : Mem) (x2 : Int32) (y3 : Int64) (y5 : Int64) (x7 : Int32), AW (XM l D ad cid) M12_worst 3 emb [(0, .ref (ad 12 0 0)), (1, .int x1), (2, .int x2), (3, .long y3), (5, .long y5), (7, .int x7)] 36 [] σ (bd (F12_worst_L36 x1 n σ x2 y3 y5 x7) G) := by
  intro n
  induction n with
  | zero => intros; exact aw_none
  | succ n ih =>
    intro σ x2 y3 y5 x7
    refine aw_bdB ?_
    rw [F12_worst_L36.eq_2]
    refine aw_iload 5 dX12_worst_36 rfl ?_
    refine aw_iload_n 1 dX12_worst_38 rfl rfl ?_
    refine aw_if_ne 52 dX12_worst_39 (by decide) ?_ ?_
    · refine aw_aload_n 0 dX12_worst_52 rfl rfl ?_
      refine aw_getf (fg_12_20 (by decide)) ci_12 (by decide) w_1476 dX12_worst_53 ?_
      refine aw_iconst 5 dX12_worst_56 (by decide) ?_
      refine aw_iaload (ar_12_5 (by decide)) dX12_worst_57 (fun v_3 => ?_)
      exact c12_worst_p58 x1 kx ih σ x2 y3 y5 x7 x7 v_3
    · refine aw_aload_n 0 dX12_worst_42 rfl rfl ?_
      refine aw_getf (fg_12_20 (by decide)) ci_12 (by decide) w_1476 dX12_worst_43 ?_
      refine aw_bipush 6 dX12_worst_46 (by decide) ?_
      refine aw_iaload (ar_12_5 (by decide)) dX12_worst_48 (fun v_9 => ?_)
      refine aw_goto 58 dX12_worst_49 (by decide) ?_
      exact c12_worst_p58 x1 kx ih σ x2 y3 y5 x7 x7 v_9
def F12_worst (σ : Mem) (x1 : Int32) : Option (Int32 × Mem) :=
  bnd (sI σ 12 0 0 1 0) fun s_1 => bnd (sI s_1 12 0 0 0 0) fun s_2 => if (F12_isIn (Int32.toInt64 x1) 0 1) = true then (bd (F12_worst_L36 x1 fuelK s_2 (-1) 0 1 0) fun r_10 s_11 => if 0 ≤ r_10 then (some (r_10, s_11)) else (bd (F12_refuse s_11 8) fun v_12 s_13 => some (v_12, s_13))) else (bd (F12_refuse s_2 5) fun v_14 s_15 => some (v_14, s_15))
set_option maxRecDepth 20000 in
theorem c12_worst {l : Launch} {D : va_G} {ad : Nat → Nat → Nat → Nat} {cid : Nat → Nat → Nat → ClassId} (σ : Mem) (x1 : Int32) : AMF (XM l D ad cid) M12_worst 3 eI [.ref (ad 12 0 0), .int x1] σ (F12_worst σ x1) := by
  refine AM.ofW (by decide +kernel) (Nat.le_of_ble_eq_true rfl) (ls := [(0, .ref (ad 12 0 0)), (1, .int x1)]) rfl ?_
  refine aw_entry ?_
  unfold F12_worst
  refine aw_aload_n 0 dX12_worst_0 rfl rfl ?_
  refine aw_iconst 0 dX12_worst_1 (by decide) ?_
  refine aw_putI (fs_12_1 (by decide)) ci_12 (by decide) rfl rfl w_1457 dX12_worst_2 ?_
  refine aw_bndM (fun s_1 => ?_)
  refine aw_aload_n 0 dX12_worst_5 rfl rfl ?_
  refine aw_iconst 0 dX12_worst_6 (by decide) ?_
  refine aw_putI (fs_12_0 (by decide)) ci_12 (by decide) rfl rfl w_1456 dX12_worst_7 ?_
  refine aw_bndM (fun s_2 => ?_)
  refine aw_iload_n 1 dX12_worst_10 rfl rfl ?_
  refine aw_i2l dX12_worst_11 ?_
  refine aw_lconst 0 dX12_worst_12 (by decide) ?_
  refine aw_lconst 1 dX12_worst_13 (by decide) ?_
  refine aw_callST_B (c12_isIn s_2 (Int32.toInt64 x1) 0 1) (by decide) mk_12_isIn w_1752 w_1751 rfl rfl (Nat.le_of_ble_eq_true rfl) dX12_worst_14 ?_
  refine aw_bif_ne 26 dX12_worst_17 (by decide) ?_ ?_
  · refine aw_iconst (-1) dX12_worst_26 (by decide) ?_
    refine aw_istore_n (ls' := [(0, .ref (ad 12 0 0)), (1, .int x1), (2, .int (-1))]) [1, 2, 0] dX12_worst_27 rfl (by decide) rfl ?_
    refine aw_lconst 0 dX12_worst_28 (by decide) ?_
    refine aw_lstore_n (ls' := [(0, .ref (ad 12 0 0)), (1, .int x1), (2, .int (-1)), (3, .long 0)]) [1, 2, 3, 0] dX12_worst_29 rfl (by decide) rfl ?_
    refine aw_lconst 1 dX12_worst_30 (by decide) ?_
    refine aw_lstore (ls' := [(0, .ref (ad 12 0 0)), (1, .int x1), (2, .int (-1)), (3, .long 0), (5, .long 1)]) [1, 2, 3, 4, 0] dX12_worst_31 (by decide) rfl ?_
    refine aw_iconst 0 dX12_worst_33 (by decide) ?_
    refine aw_istore (ls' := [(0, .ref (ad 12 0 0)), (1, .int x1), (2, .int (-1)), (3, .long 0), (5, .long 1), (7, .int 0)]) [1, 2, 3, 4, 5, 0] dX12_worst_34 (by decide) rfl ?_
    refine aw_assocW ?_
    refine c12_worst_L36 x1 (fun r_10 s_11 => ?_) fuelK s_2 (-1) 0 1 0
    refine aw_iload_n 1 dX12_worst_148 rfl rfl ?_
    refine aw_if_ge 161 dX12_worst_149 (by decide) ?_ ?_
    · refine aw_iload_n 1 dX12_worst_161 rfl rfl ?_
      exact aw_ireturn rfl dX12_worst_162
    · refine aw_aload_n 0 dX12_worst_152 rfl rfl ?_
      refine aw_bipush 8 dX12_worst_153 (by decide) ?_
      refine aw_callVW_I (c12_refuse s_11 8) (io_12 (by decide)) ci_12 (by decide) mk_12_refuse w_1919 w_101 w_1917 rfl rfl (Nat.le_of_ble_eq_true rfl) dX12_worst_155 (fun v_12 s_13 => ?_)
      refine aw_goto 162 dX12_worst_158 (by decide) ?_
      exact aw_ireturn rfl dX12_worst_162
  · refine aw_aload_n 0 dX12_worst_20 rfl rfl ?_
    refine aw_iconst 5 dX12_worst_21 (by decide) ?_
    refine aw_callVW_I (c12_refuse s_2 5) (io_12 (by decide)) ci_12 (by decide) mk_12_refuse w_1919 w_101 w_1917 rfl rfl (Nat.le_of_ble_eq_true rfl) dX12_worst_22 (fun v_14 s_15 => ?_)
    exact aw_ireturn rfl dX12_worst_25
def F12_sieve_L32 (σ : Mem) (x1 : Int32) : Nat → Int32 → Int32 → Option (Int32)
  | 0 => fun _ _ => none
  | n + 1 => fun x2 x3 =>
    (ald 3000 (gI σ 12 0 5) 5).bind fun v_3 => if v_3 ≤ x3 then (some x2) else ((ald 3000 (gI σ 12 0 5) (21 + x3)).bind fun v_4 => if x1 < v_4 then (bnd (x2 ||| 0) fun v_5 => (F12_sieve_L32 σ x1 n) v_5 (x3 + 1)) else (bnd (x2 ||| (1 <<< (x3 &&& 31))) fun v_6 => (F12_sieve_L32 σ x1 n) v_6 (x3 + 1)))
set_option maxRecDepth 20000 in
theorem c12_sieve_L32 {l : Launch} {D : va_G} {ad : Nat → Nat → Nat → Nat} {cid : Nat → Nat → Nat → ClassId} {α : Type} {emb : α → Option Value} (σ : Mem) (x1 : Int32) {G : Int32 → Option (α × Mem)} (kx : ∀ r, AW (XM l D ad cid) M12_sieve 1 emb [(2, .int r)] 71 [] σ (G r)) : ∀ (n : Nat) (x2 : Int32) (x3 : Int32), AW (XM l D ad cid) M12_sieve 1 emb [(0, .ref (ad 12 0 0)), (1, .int x1), (2, .int x2), (3, .int x3)] 32 [] σ ((F12_sieve_L32 σ x1 n x2 x3).bind G) := by
  intro n
  induction n with
  | zero => intros; exact aw_none
  | succ n ih =>
    intro x2 x3
    rw [F12_sieve_L32.eq_2]
    refine aw_iload_n 3 dX12_sieve_32 rfl rfl ?_
    refine aw_aload_n 0 dX12_sieve_33 rfl rfl ?_
    refine aw_getf (fg_12_20 (by decide)) ci_12 (by decide) w_1476 dX12_sieve_34 ?_
    refine aw_iconst 5 dX12_sieve_37 (by decide) ?_
    refine aw_iaload (ar_12_5 (by decide)) dX12_sieve_38 (fun v_3 => ?_)
    refine aw_icmp_ge 71 dX12_sieve_39 (by decide) ?_ ?_
    · refine aw_ls (ls' := [(2, .int x2)]) [2] rfl ?_
      exact kx x2
    · refine aw_iload_n 2 dX12_sieve_42 rfl rfl ?_
      refine aw_aload_n 0 dX12_sieve_43 rfl rfl ?_
      refine aw_getf (fg_12_20 (by decide)) ci_12 (by decide) w_1476 dX12_sieve_44 ?_
      refine aw_bipush 21 dX12_sieve_47 (by decide) ?_
      refine aw_iload_n 3 dX12_sieve_49 rfl rfl ?_
      refine aw_iadd dX12_sieve_50 ?_
      refine aw_iaload (ar_12_5 (by decide)) dX12_sieve_51 (fun v_4 => ?_)
      refine aw_iload_n 1 dX12_sieve_52 rfl rfl ?_
      refine aw_icmp_gt 62 dX12_sieve_53 (by decide) ?_ ?_
      · refine aw_iconst 0 dX12_sieve_62 (by decide) ?_
        refine aw_ior dX12_sieve_63 ?_
        refine aw_bnd_int (fun v_5 => ?_)
        refine aw_istore_n (ls' := [(0, .ref (ad 12 0 0)), (1, .int x1), (2, .int v_5), (3, .int x3)]) [1, 2, 0, 3] dX12_sieve_64 rfl (by decide) rfl ?_
        refine aw_iinc (ls' := [(0, .ref (ad 12 0 0)), (1, .int x1), (2, .int v_5), (3, .int (x3 + 1))]) (x3 + 1) 3 [1, 2, 3, 0] dX12_sieve_65 rfl (by rfl) (by decide) rfl ?_
        refine aw_goto 32 dX12_sieve_68 (by decide) ?_
        exact ih v_5 (x3 + 1)
      · refine aw_iconst 1 dX12_sieve_56 (by decide) ?_
        refine aw_iload_n 3 dX12_sieve_57 rfl rfl ?_
        refine aw_ishl dX12_sieve_58 ?_
        refine aw_goto 63 dX12_sieve_59 (by decide) ?_
        refine aw_ior dX12_sieve_63 ?_
        refine aw_bnd_int (fun v_6 => ?_)
        refine aw_istore_n (ls' := [(0, .ref (ad 12 0 0)), (1, .int x1), (2, .int v_6), (3, .int x3)]) [1, 2, 0, 3] dX12_sieve_64 rfl (by decide) rfl ?_
        refine aw_iinc (ls' := [(0, .ref (ad 12 0 0)), (1, .int x1), (2, .int v_6), (3, .int (x3 + 1))]) (x3 + 1) 3 [1, 2, 3, 0] dX12_sieve_65 rfl (by rfl) (by decide) rfl ?_
        refine aw_goto 32 dX12_sieve_68 (by decide) ?_
        exact ih v_6 (x3 + 1)
def F12_sieve (σ : Mem) (x1 : Int32) : Option (Int32 × Mem) :=
  bnd (sI σ 12 0 0 1 0) fun s_1 => bnd (sI s_1 12 0 0 0 0) fun s_2 => if (F12_isIn (Int32.toInt64 x1) 1 12) = true then ((F12_sieve_L32 s_2 x1 fuelK 0 0).bind fun r_7 => some (r_7, s_2)) else (bd (F12_refuse s_2 5) fun v_8 s_9 => some (v_8, s_9))
set_option maxRecDepth 20000 in
theorem c12_sieve {l : Launch} {D : va_G} {ad : Nat → Nat → Nat → Nat} {cid : Nat → Nat → Nat → ClassId} (σ : Mem) (x1 : Int32) : AMF (XM l D ad cid) M12_sieve 1 eI [.ref (ad 12 0 0), .int x1] σ (F12_sieve σ x1) := by
  refine AM.ofW (by decide +kernel) (Nat.le_of_ble_eq_true rfl) (ls := [(0, .ref (ad 12 0 0)), (1, .int x1)]) rfl ?_
  refine aw_entry ?_
  unfold F12_sieve
  refine aw_aload_n 0 dX12_sieve_0 rfl rfl ?_
  refine aw_iconst 0 dX12_sieve_1 (by decide) ?_
  refine aw_putI (fs_12_1 (by decide)) ci_12 (by decide) rfl rfl w_1457 dX12_sieve_2 ?_
  refine aw_bndM (fun s_1 => ?_)
  refine aw_aload_n 0 dX12_sieve_5 rfl rfl ?_
  refine aw_iconst 0 dX12_sieve_6 (by decide) ?_
  refine aw_putI (fs_12_0 (by decide)) ci_12 (by decide) rfl rfl w_1456 dX12_sieve_7 ?_
  refine aw_bndM (fun s_2 => ?_)
  refine aw_iload_n 1 dX12_sieve_10 rfl rfl ?_
  refine aw_i2l dX12_sieve_11 ?_
  refine aw_lconst 1 dX12_sieve_12 (by decide) ?_
  refine aw_ldc2 w_2163 dX12_sieve_13 ?_
  refine aw_callST_B (c12_isIn s_2 (Int32.toInt64 x1) 1 12) (by decide) mk_12_isIn w_1752 w_1751 rfl rfl (Nat.le_of_ble_eq_true rfl) dX12_sieve_16 ?_
  refine aw_bif_ne 28 dX12_sieve_19 (by decide) ?_ ?_
  · refine aw_iconst 0 dX12_sieve_28 (by decide) ?_
    refine aw_istore_n (ls' := [(0, .ref (ad 12 0 0)), (1, .int x1), (2, .int 0)]) [1, 2, 0] dX12_sieve_29 rfl (by decide) rfl ?_
    refine aw_iconst 0 dX12_sieve_30 (by decide) ?_
    refine aw_istore_n (ls' := [(0, .ref (ad 12 0 0)), (1, .int x1), (2, .int 0), (3, .int 0)]) [1, 2, 3, 0] dX12_sieve_31 rfl (by decide) rfl ?_
    refine aw_assoc ?_
    refine c12_sieve_L32 s_2 x1 (fun r_7 => ?_) fuelK 0 0
    refine aw_iload_n 0 dX12_sieve_71 rfl rfl ?_
    exact aw_ireturn rfl dX12_sieve_72
  · refine aw_aload_n 0 dX12_sieve_22 rfl rfl ?_
    refine aw_iconst 5 dX12_sieve_23 (by decide) ?_
    refine aw_callVW_I (c12_refuse s_2 5) (io_12 (by decide)) ci_12 (by decide) mk_12_refuse w_1919 w_101 w_1917 rfl rfl (Nat.le_of_ble_eq_true rfl) dX12_sieve_24 (fun v_8 s_9 => ?_)
    exact aw_ireturn rfl dX12_sieve_27
def F12_same_L27 (σ : Mem) (x2 : Int32) : Nat → Int32 → Int32 → Option (Int32)
  | 0 => fun _ _ => none
  | n + 1 => fun x1 x3 =>
    if x2 ≤ x3 then (some x1) else ((ald 3000 (gI σ 12 0 5) (F12_holeAt x2)).bind fun v_4 => (ald 3000 (gI σ 12 0 5) (F12_holeAt x3)).bind fun v_5 => if v_4 = v_5 then ((ald 3000 (gI σ 12 0 5) ((F12_holeAt x2) + 1)).bind fun v_7 => (ald 3000 (gI σ 12 0 5) ((F12_holeAt x3) + 1)).bind fun v_8 => if v_7 = v_8 then (bnd (x1 + 1) fun v_10 => (F12_same_L27 σ x2 n) v_10 (x3 + 1)) else (bnd (x1 + 0) fun v_9 => (F12_same_L27 σ x2 n) v_9 (x3 + 1))) else (bnd (x1 + 0) fun v_6 => (F12_same_L27 σ x2 n) v_6 (x3 + 1)))
set_option maxRecDepth 20000 in
theorem c12_same_L27 {l : Launch} {D : va_G} {ad : Nat → Nat → Nat → Nat} {cid : Nat → Nat → Nat → ClassId} {α : Type} {emb : α → Option Value} (σ : Mem) (x2 : Int32) {G : Int32 → Option (α × Mem)} (kx : ∀ r, AW (XM l D ad cid) M12_same 1 emb [(0, .ref (ad 12 0 0)), (1, .int r), (2, .int x2)] 92 [] σ (G r)) : ∀ (n : Nat) (x1 : Int32) (x3 : Int32), AW (XM l D ad cid) M12_same 1 emb [(0, .ref (ad 12 0 0)), (1, .int x1), (2, .int x2), (3, .int x3)] 27 [] σ ((F12_same_L27 σ x2 n x1 x3).bind G) := by
  intro n
  induction n with
  | zero => intros; exact aw_none
  | succ n ih =>
    intro x1 x3
    rw [F12_same_L27.eq_2]
    refine aw_iload_n 3 dX12_same_27 rfl rfl ?_
    refine aw_iload_n 2 dX12_same_28 rfl rfl ?_
    refine aw_icmp_ge 92 dX12_same_29 (by decide) ?_ ?_
    · refine aw_ls (ls' := [(0, .ref (ad 12 0 0)), (1, .int x1), (2, .int x2)]) [0, 1, 2] rfl ?_
      exact kx x1
    · refine aw_iload_n 1 dX12_same_32 rfl rfl ?_
      refine aw_aload_n 0 dX12_same_33 rfl rfl ?_
      refine aw_getf (fg_12_20 (by decide)) ci_12 (by decide) w_1476 dX12_same_34 ?_
      refine aw_iload_n 2 dX12_same_37 rfl rfl ?_
      refine aw_callST_I (c12_holeAt σ x2) (by decide) mk_12_holeAt w_1954 w_1953 rfl rfl (Nat.le_of_ble_eq_true rfl) dX12_same_38 ?_
      refine aw_iaload (ar_12_5 (by decide)) dX12_same_41 (fun v_4 => ?_)
      refine aw_aload_n 0 dX12_same_42 rfl rfl ?_
      refine aw_getf (fg_12_20 (by decide)) ci_12 (by decide) w_1476 dX12_same_43 ?_
      refine aw_iload_n 3 dX12_same_46 rfl rfl ?_
      refine aw_callST_I (c12_holeAt σ x3) (by decide) mk_12_holeAt w_1954 w_1953 rfl rfl (Nat.le_of_ble_eq_true rfl) dX12_same_47 ?_
      refine aw_iaload (ar_12_5 (by decide)) dX12_same_50 (fun v_5 => ?_)
      refine aw_icmp_ne 83 dX12_same_51 (by decide) ?_ ?_
      · refine aw_iconst 0 dX12_same_83 (by decide) ?_
        refine aw_iadd dX12_same_84 ?_
        refine aw_bnd_int (fun v_6 => ?_)
        refine aw_istore_n (ls' := [(0, .ref (ad 12 0 0)), (1, .int v_6), (2, .int x2), (3, .int x3)]) [1, 0, 2, 3] dX12_same_85 rfl (by decide) rfl ?_
        refine aw_iinc (ls' := [(0, .ref (ad 12 0 0)), (1, .int v_6), (2, .int x2), (3, .int (x3 + 1))]) (x3 + 1) 3 [1, 2, 3, 0] dX12_same_86 rfl (by rfl) (by decide) rfl ?_
        refine aw_goto 27 dX12_same_89 (by decide) ?_
        exact ih v_6 (x3 + 1)
      · refine aw_aload_n 0 dX12_same_54 rfl rfl ?_
        refine aw_getf (fg_12_20 (by decide)) ci_12 (by decide) w_1476 dX12_same_55 ?_
        refine aw_iload_n 2 dX12_same_58 rfl rfl ?_
        refine aw_callST_I (c12_holeAt σ x2) (by decide) mk_12_holeAt w_1954 w_1953 rfl rfl (Nat.le_of_ble_eq_true rfl) dX12_same_59 ?_
        refine aw_iconst 1 dX12_same_62 (by decide) ?_
        refine aw_iadd dX12_same_63 ?_
        refine aw_iaload (ar_12_5 (by decide)) dX12_same_64 (fun v_7 => ?_)
        refine aw_aload_n 0 dX12_same_65 rfl rfl ?_
        refine aw_getf (fg_12_20 (by decide)) ci_12 (by decide) w_1476 dX12_same_66 ?_
        refine aw_iload_n 3 dX12_same_69 rfl rfl ?_
        refine aw_callST_I (c12_holeAt σ x3) (by decide) mk_12_holeAt w_1954 w_1953 rfl rfl (Nat.le_of_ble_eq_true rfl) dX12_same_70 ?_
        refine aw_iconst 1 dX12_same_73 (by decide) ?_
        refine aw_iadd dX12_same_74 ?_
        refine aw_iaload (ar_12_5 (by decide)) dX12_same_75 (fun v_8 => ?_)
        refine aw_icmp_ne 83 dX12_same_76 (by decide) ?_ ?_
        · refine aw_iconst 0 dX12_same_83 (by decide) ?_
          refine aw_iadd dX12_same_84 ?_
          refine aw_bnd_int (fun v_9 => ?_)
          refine aw_istore_n (ls' := [(0, .ref (ad 12 0 0)), (1, .int v_9), (2, .int x2), (3, .int x3)]) [1, 0, 2, 3] dX12_same_85 rfl (by decide) rfl ?_
          refine aw_iinc (ls' := [(0, .ref (ad 12 0 0)), (1, .int v_9), (2, .int x2), (3, .int (x3 + 1))]) (x3 + 1) 3 [1, 2, 3, 0] dX12_same_86 rfl (by rfl) (by decide) rfl ?_
          refine aw_goto 27 dX12_same_89 (by decide) ?_
          exact ih v_9 (x3 + 1)
        · refine aw_iconst 1 dX12_same_79 (by decide) ?_
          refine aw_goto 84 dX12_same_80 (by decide) ?_
          refine aw_iadd dX12_same_84 ?_
          refine aw_bnd_int (fun v_10 => ?_)
          refine aw_istore_n (ls' := [(0, .ref (ad 12 0 0)), (1, .int v_10), (2, .int x2), (3, .int x3)]) [1, 0, 2, 3] dX12_same_85 rfl (by decide) rfl ?_
          refine aw_iinc (ls' := [(0, .ref (ad 12 0 0)), (1, .int v_10), (2, .int x2), (3, .int (x3 + 1))]) (x3 + 1) 3 [1, 2, 3, 0] dX12_same_86 rfl (by rfl) (by decide) rfl ?_
          refine aw_goto 27 dX12_same_89 (by decide) ?_
          exact ih v_10 (x3 + 1)
def F12_same_L14 (σ : Mem)  : Nat → Int32 → Int32 → Option (Int32)
  | 0 => fun _ _ => none
  | n + 1 => fun x1 x2 =>
    (ald 3000 (gI σ 12 0 5) 8).bind fun v_3 => if v_3 ≤ x2 then (some x1) else ((F12_same_L27 σ x2 fuelK x1 0).bind fun r_11 => (F12_same_L14 σ n) r_11 (x2 + 1))
set_option maxRecDepth 20000 in
theorem c12_same_L14 {l : Launch} {D : va_G} {ad : Nat → Nat → Nat → Nat} {cid : Nat → Nat → Nat → ClassId} {α : Type} {emb : α → Option Value} (σ : Mem)  {G : Int32 → Option (α × Mem)} (kx : ∀ r, AW (XM l D ad cid) M12_same 1 emb [(1, .int r)] 98 [] σ (G r)) : ∀ (n : Nat) (x1 : Int32) (x2 : Int32), AW (XM l D ad cid) M12_same 1 emb [(0, .ref (ad 12 0 0)), (1, .int x1), (2, .int x2)] 14 [] σ ((F12_same_L14 σ  n x1 x2).bind G) := by
  intro n
  induction n with
  | zero => intros; exact aw_none
  | succ n ih =>
    intro x1 x2
    rw [F12_same_L14.eq_2]
    refine aw_iload_n 2 dX12_same_14 rfl rfl ?_
    refine aw_aload_n 0 dX12_same_15 rfl rfl ?_
    refine aw_getf (fg_12_20 (by decide)) ci_12 (by decide) w_1476 dX12_same_16 ?_
    refine aw_bipush 8 dX12_same_19 (by decide) ?_
    refine aw_iaload (ar_12_5 (by decide)) dX12_same_21 (fun v_3 => ?_)
    refine aw_icmp_ge 98 dX12_same_22 (by decide) ?_ ?_
    · refine aw_ls (ls' := [(1, .int x1)]) [1] rfl ?_
      exact kx x1
    · refine aw_iconst 0 dX12_same_25 (by decide) ?_
      refine aw_istore_n (ls' := [(0, .ref (ad 12 0 0)), (1, .int x1), (2, .int x2), (3, .int 0)]) [1, 2, 3, 0] dX12_same_26 rfl (by decide) rfl ?_
      refine aw_assoc ?_
      refine c12_same_L27 σ x2 (fun r_11 => ?_) fuelK x1 0
      refine aw_iinc (ls' := [(0, .ref (ad 12 0 0)), (1, .int r_11), (2, .int (x2 + 1))]) (x2 + 1) 2 [1, 2, 0] dX12_same_92 rfl (by rfl) (by decide) rfl ?_
      refine aw_goto 14 dX12_same_95 (by decide) ?_
      exact ih r_11 (x2 + 1)
def F12_same (σ : Mem)  : Option (Int32 × Mem) :=
  bnd (sI σ 12 0 0 1 0) fun s_1 => bnd (sI s_1 12 0 0 0 0) fun s_2 => (F12_same_L14 s_2  fuelK 0 0).bind fun r_12 => some (r_12, s_2)
set_option maxRecDepth 20000 in
theorem c12_same {l : Launch} {D : va_G} {ad : Nat → Nat → Nat → Nat} {cid : Nat → Nat → Nat → ClassId} (σ : Mem)  : AMF (XM l D ad cid) M12_same 1 eI [.ref (ad 12 0 0)] σ (F12_same σ) := by
  refine AM.ofW (by decide +kernel) (Nat.le_of_ble_eq_true rfl) (ls := [(0, .ref (ad 12 0 0))]) rfl ?_
  refine aw_entry ?_
  unfold F12_same
  refine aw_aload_n 0 dX12_same_0 rfl rfl ?_
  refine aw_iconst 0 dX12_same_1 (by decide) ?_
  refine aw_putI (fs_12_1 (by decide)) ci_12 (by decide) rfl rfl w_1457 dX12_same_2 ?_
  refine aw_bndM (fun s_1 => ?_)
  refine aw_aload_n 0 dX12_same_5 rfl rfl ?_
  refine aw_iconst 0 dX12_same_6 (by decide) ?_
  refine aw_putI (fs_12_0 (by decide)) ci_12 (by decide) rfl rfl w_1456 dX12_same_7 ?_
  refine aw_bndM (fun s_2 => ?_)
  refine aw_iconst 0 dX12_same_10 (by decide) ?_
  refine aw_istore_n (ls' := [(0, .ref (ad 12 0 0)), (1, .int 0)]) [1, 0] dX12_same_11 rfl (by decide) rfl ?_
  refine aw_iconst 0 dX12_same_12 (by decide) ?_
  refine aw_istore_n (ls' := [(0, .ref (ad 12 0 0)), (1, .int 0), (2, .int 0)]) [1, 2, 0] dX12_same_13 rfl (by decide) rfl ?_
  refine aw_assoc ?_
  refine c12_same_L14 s_2  (fun r_12 => ?_) fuelK 0 0
  refine aw_iload_n 0 dX12_same_98 rfl rfl ?_
  exact aw_ireturn rfl dX12_same_99
def F12_shoots (σ : Mem) (x1 : Int32) (x2 : Int32) (x3 : Int32) (x4 : Int32) (x5 : Int32) (x6 : Int32) (x7 : Int32) : Option (Int32 × Mem) :=
  (F12_strikeX σ x1 x3 x5 x6).bind fun v_1 => (F12_strikeY σ x1 x4 x7).bind fun v_2 => (F12_pointsOf σ v_1 v_2).bind fun v_3 => (ald 3000 (gI σ 12 0 5) 7).bind fun v_4 => chk 3000 7 <| bnd (sI σ 12 0 5 (Int32.toNatClampNeg 7) (iMin 20 (v_4 + 1))) fun s_5 => (ald 3000 (gI s_5 12 0 5) (77 + x1)).bind fun v_6 => chk 3000 (77 + x1) <| bnd (sI s_5 12 0 5 (Int32.toNatClampNeg (77 + x1)) (v_6 + v_3)) fun s_7 => if (F12_isIn (Int32.toInt64 v_1) (-99) 99) = true then (if (F12_isIn (Int32.toInt64 v_2) (-99) 99) = true then ((ald 3000 (gI s_7 12 0 5) 8).bind fun v_8 => bnd (F12_holeAt v_8) fun v_9 => chk 3000 v_9 <| bnd (sI s_7 12 0 5 (Int32.toNatClampNeg v_9) v_1) fun s_10 => chk 3000 (v_9 + 1) <| bnd (sI s_10 12 0 5 (Int32.toNatClampNeg (v_9 + 1)) v_2) fun s_11 => chk 3000 (v_9 + 2) <| bnd (sI s_11 12 0 5 (Int32.toNatClampNeg (v_9 + 2)) x1) fun s_12 => chk 3000 (v_9 + 3) <| bnd (sI s_12 12 0 5 (Int32.toNatClampNeg (v_9 + 3)) x2) fun s_13 => (ald 3000 (gI s_13 12 0 5) 8).bind fun v_14 => chk 3000 8 <| bnd (sI s_13 12 0 5 (Int32.toNatClampNeg 8) (v_14 + 1)) fun s_15 => some (v_3, s_15)) else (some (v_3, s_7))) else (some (v_3, s_7))
set_option maxRecDepth 20000 in
theorem c12_shoots {l : Launch} {D : va_G} {ad : Nat → Nat → Nat → Nat} {cid : Nat → Nat → Nat → ClassId} (σ : Mem) (x1 : Int32) (x2 : Int32) (x3 : Int32) (x4 : Int32) (x5 : Int32) (x6 : Int32) (x7 : Int32) : AMF (XM l D ad cid) M12_shoots 2 eI [.ref (ad 12 0 0), .int x1, .int x2, .int x3, .int x4, .int x5, .int x6, .int x7] σ (F12_shoots σ x1 x2 x3 x4 x5 x6 x7) := by
  refine AM.ofW (by decide +kernel) (Nat.le_of_ble_eq_true rfl) (ls := [(0, .ref (ad 12 0 0)), (1, .int x1), (2, .int x2), (3, .int x3), (4, .int x4), (5, .int x5), (6, .int x6), (7, .int x7)]) rfl ?_
  refine aw_entry ?_
  unfold F12_shoots
  refine aw_aload_n 0 dX12_shoots_0 rfl rfl ?_
  refine aw_iload_n 1 dX12_shoots_1 rfl rfl ?_
  refine aw_iload_n 3 dX12_shoots_2 rfl rfl ?_
  refine aw_iload 5 dX12_shoots_3 rfl ?_
  refine aw_iload 6 dX12_shoots_5 rfl ?_
  refine aw_callVO_I (c12_strikeX σ x1 x3 x5 x6) (io_12 (by decide)) ci_12 (by decide) mk_12_strikeX w_2000 w_110 w_1998 rfl rfl (Nat.le_of_ble_eq_true rfl) dX12_shoots_7 (fun v_1 => ?_)
  refine aw_istore (ls' := [(0, .ref (ad 12 0 0)), (1, .int x1), (2, .int x2), (4, .int x4), (7, .int x7), (8, .int v_1)]) [1, 2, 3, 5, 8, 0] dX12_shoots_10 (by decide) rfl ?_
  refine aw_aload_n 0 dX12_shoots_12 rfl rfl ?_
  refine aw_iload_n 1 dX12_shoots_13 rfl rfl ?_
  refine aw_iload 3 dX12_shoots_14 rfl ?_
  refine aw_iload 4 dX12_shoots_16 rfl ?_
  refine aw_callVO_I (c12_strikeY σ x1 x4 x7) (io_12 (by decide)) ci_12 (by decide) mk_12_strikeY w_2004 w_111 w_2002 rfl rfl (Nat.le_of_ble_eq_true rfl) dX12_shoots_18 (fun v_2 => ?_)
  refine aw_istore (ls' := [(0, .ref (ad 12 0 0)), (1, .int x1), (2, .int x2), (8, .int v_1), (9, .int v_2)]) [1, 2, 3, 6, 0] dX12_shoots_21 (by decide) rfl ?_
  refine aw_aload_n 0 dX12_shoots_23 rfl rfl ?_
  refine aw_iload 3 dX12_shoots_24 rfl ?_
  refine aw_iload 4 dX12_shoots_26 rfl ?_
  refine aw_callVO_I (c12_pointsOf σ v_1 v_2) (io_12 (by decide)) ci_12 (by decide) mk_12_pointsOf w_2017 w_112 w_2015 rfl rfl (Nat.le_of_ble_eq_true rfl) dX12_shoots_28 (fun v_3 => ?_)
  refine aw_istore (ls' := [(0, .ref (ad 12 0 0)), (1, .int x1), (2, .int x2), (8, .int v_1), (9, .int v_2), (10, .int v_3)]) [1, 2, 3, 4, 5, 0] dX12_shoots_31 (by decide) rfl ?_
  refine aw_aload_n 0 dX12_shoots_33 rfl rfl ?_
  refine aw_getf (fg_12_20 (by decide)) ci_12 (by decide) w_1476 dX12_shoots_34 ?_
  refine aw_bipush 7 dX12_shoots_37 (by decide) ?_
  refine aw_bipush 20 dX12_shoots_39 (by decide) ?_
  refine aw_aload_n 0 dX12_shoots_41 rfl rfl ?_
  refine aw_getf (fg_12_20 (by decide)) ci_12 (by decide) w_1476 dX12_shoots_42 ?_
  refine aw_bipush 7 dX12_shoots_45 (by decide) ?_
  refine aw_iaload (ar_12_5 (by decide)) dX12_shoots_47 (fun v_4 => ?_)
  refine aw_iconst 1 dX12_shoots_48 (by decide) ?_
  refine aw_iadd dX12_shoots_49 ?_
  refine aw_min w_2035 w_863 w_159 w_864 (Nat.le_of_ble_eq_true rfl) dX12_shoots_50 ?_
  refine aw_iastore (ar_12_5 (by decide)) dX12_shoots_53 ?_
  refine aw_bndM (fun s_5 => ?_)
  refine aw_aload_n 0 dX12_shoots_54 rfl rfl ?_
  refine aw_getf (fg_12_20 (by decide)) ci_12 (by decide) w_1476 dX12_shoots_55 ?_
  refine aw_bipush 77 dX12_shoots_58 (by decide) ?_
  refine aw_iload_n 1 dX12_shoots_60 rfl rfl ?_
  refine aw_iadd dX12_shoots_61 ?_
  refine aw_dup2_11 dX12_shoots_62 rfl rfl ?_
  refine aw_iaload (ar_12_5 (by decide)) dX12_shoots_63 (fun v_6 => ?_)
  refine aw_iload 5 dX12_shoots_64 rfl ?_
  refine aw_iadd dX12_shoots_66 ?_
  refine aw_iastore (ar_12_5 (by decide)) dX12_shoots_67 ?_
  refine aw_bndM (fun s_7 => ?_)
  refine aw_iload 3 dX12_shoots_68 rfl ?_
  refine aw_i2l dX12_shoots_70 ?_
  refine aw_ldc2 w_2154 dX12_shoots_71 ?_
  refine aw_ldc2 w_2098 dX12_shoots_74 ?_
  refine aw_callST_B (c12_isIn s_7 (Int32.toInt64 v_1) (-99) 99) (by decide) mk_12_isIn w_1752 w_1751 rfl rfl (Nat.le_of_ble_eq_true rfl) dX12_shoots_77 ?_
  refine aw_bif_eq 161 dX12_shoots_80 (by decide) ?_ ?_
  · refine aw_iload 5 dX12_shoots_161 rfl ?_
    exact aw_ireturn rfl dX12_shoots_163
  · refine aw_iload 4 dX12_shoots_83 rfl ?_
    refine aw_i2l dX12_shoots_85 ?_
    refine aw_ldc2 w_2154 dX12_shoots_86 ?_
    refine aw_ldc2 w_2098 dX12_shoots_89 ?_
    refine aw_callST_B (c12_isIn s_7 (Int32.toInt64 v_2) (-99) 99) (by decide) mk_12_isIn w_1752 w_1751 rfl rfl (Nat.le_of_ble_eq_true rfl) dX12_shoots_92 ?_
    refine aw_bif_eq 161 dX12_shoots_95 (by decide) ?_ ?_
    · refine aw_iload 5 dX12_shoots_161 rfl ?_
      exact aw_ireturn rfl dX12_shoots_163
    · refine aw_aload_n 0 dX12_shoots_98 rfl rfl ?_
      refine aw_getf (fg_12_20 (by decide)) ci_12 (by decide) w_1476 dX12_shoots_99 ?_
      refine aw_bipush 8 dX12_shoots_102 (by decide) ?_
      refine aw_iaload (ar_12_5 (by decide)) dX12_shoots_104 (fun v_8 => ?_)
      refine aw_callST_I (c12_holeAt s_7 v_8) (by decide) mk_12_holeAt w_1954 w_1953 rfl rfl (Nat.le_of_ble_eq_true rfl) dX12_shoots_105 ?_
      refine aw_bnd_int (fun v_9 => ?_)
      refine aw_istore (ls' := [(0, .ref (ad 12 0 0)), (1, .int x1), (2, .int x2), (8, .int v_1), (9, .int v_2), (10, .int v_3), (11, .int v_9)]) [1, 2, 3, 4, 5, 6, 0] dX12_shoots_108 (by decide) rfl ?_
      refine aw_aload_n 0 dX12_shoots_110 rfl rfl ?_
      refine aw_getf (fg_12_20 (by decide)) ci_12 (by decide) w_1476 dX12_shoots_111 ?_
      refine aw_iload 6 dX12_shoots_114 rfl ?_
      refine aw_iload 3 dX12_shoots_116 rfl ?_
      refine aw_iastore (ar_12_5 (by decide)) dX12_shoots_118 ?_
      refine aw_bndM (fun s_10 => ?_)
      refine aw_aload_n 0 dX12_shoots_119 rfl rfl ?_
      refine aw_getf (fg_12_20 (by decide)) ci_12 (by decide) w_1476 dX12_shoots_120 ?_
      refine aw_iload 6 dX12_shoots_123 rfl ?_
      refine aw_iconst 1 dX12_shoots_125 (by decide) ?_
      refine aw_iadd dX12_shoots_126 ?_
      refine aw_iload 4 dX12_shoots_127 rfl ?_
      refine aw_iastore (ar_12_5 (by decide)) dX12_shoots_129 ?_
      refine aw_bndM (fun s_11 => ?_)
      refine aw_aload_n 0 dX12_shoots_130 rfl rfl ?_
      refine aw_getf (fg_12_20 (by decide)) ci_12 (by decide) w_1476 dX12_shoots_131 ?_
      refine aw_iload 6 dX12_shoots_134 rfl ?_
      refine aw_iconst 2 dX12_shoots_136 (by decide) ?_
      refine aw_iadd dX12_shoots_137 ?_
      refine aw_iload_n 1 dX12_shoots_138 rfl rfl ?_
      refine aw_iastore (ar_12_5 (by decide)) dX12_shoots_139 ?_
      refine aw_bndM (fun s_12 => ?_)
      refine aw_aload_n 0 dX12_shoots_140 rfl rfl ?_
      refine aw_getf (fg_12_20 (by decide)) ci_12 (by decide) w_1476 dX12_shoots_141 ?_
      refine aw_iload 6 dX12_shoots_144 rfl ?_
      refine aw_iconst 3 dX12_shoots_146 (by decide) ?_
      refine aw_iadd dX12_shoots_147 ?_
      refine aw_iload_n 2 dX12_shoots_148 rfl rfl ?_
      refine aw_iastore (ar_12_5 (by decide)) dX12_shoots_149 ?_
      refine aw_bndM (fun s_13 => ?_)
      refine aw_aload_n 0 dX12_shoots_150 rfl rfl ?_
      refine aw_getf (fg_12_20 (by decide)) ci_12 (by decide) w_1476 dX12_shoots_151 ?_
      refine aw_bipush 8 dX12_shoots_154 (by decide) ?_
      refine aw_dup2_11 dX12_shoots_156 rfl rfl ?_
      refine aw_iaload (ar_12_5 (by decide)) dX12_shoots_157 (fun v_14 => ?_)
      refine aw_iconst 1 dX12_shoots_158 (by decide) ?_
      refine aw_iadd dX12_shoots_159 ?_
      refine aw_iastore (ar_12_5 (by decide)) dX12_shoots_160 ?_
      refine aw_bndM (fun s_15 => ?_)
      refine aw_iload 5 dX12_shoots_161 rfl ?_
      exact aw_ireturn rfl dX12_shoots_163
def F12_shoot (σ : Mem) (x1 : Int32) (x2 : Int32) (x3 : Int32) (x4 : Int32) (x5 : Int32) (x6 : Int32) (x7 : Int32) (x8 : Int32) : Option (Int32 × Mem) :=
  bnd (sI σ 12 0 0 1 0) fun s_1 => bnd (sI s_1 12 0 0 0 0) fun s_2 => (F12_isShot s_2 x1 x2).bind fun v_3 => if v_3 = true then ((ald 3000 (gI s_2 12 0 5) (53 + x1)).bind fun v_4 => if (F12_isPuffing x3 v_4) = true then (if (F12_isAim x4 x5) = true then (if (F12_isIn (Int32.toInt64 x6) (-1) 1) = true then (if (F12_isIn (Int32.toInt64 x7) (-6) 6) = true then (if (F12_isIn (Int32.toInt64 x8) (-6) 6) = true then ((ald 3000 (gI s_2 12 0 5) 8).bind fun v_13 => if v_13 = 60 then (bd (F12_refuse s_2 7) fun v_21 s_22 => some (v_21, s_22)) else ((ald 3000 (gI s_2 12 0 5) 7).bind fun v_14 => bd (F12_flies s_2 x2 x3 v_14) fun v_15 s_16 => if v_15 = true then (bd (F12_shoots s_16 x1 x2 x4 x5 x6 x7 x8) fun v_19 s_20 => some (v_19, s_20)) else (bd (F12_refuse s_16 9) fun v_17 s_18 => some (v_17, s_18)))) else (bd (F12_refuse s_2 5) fun v_23 s_24 => some (v_23, s_24))) else (bd (F12_refuse s_2 5) fun v_11 s_12 => some (v_11, s_12))) else (bd (F12_refuse s_2 5) fun v_9 s_10 => some (v_9, s_10))) else (bd (F12_refuse s_2 5) fun v_7 s_8 => some (v_7, s_8))) else (bd (F12_refuse s_2 5) fun v_5 s_6 => some (v_5, s_6))) else (bd (F12_refuse s_2 2) fun v_25 s_26 => some (v_25, s_26))
set_option maxRecDepth 20000 in
theorem c12_shoot {l : Launch} {D : va_G} {ad : Nat → Nat → Nat → Nat} {cid : Nat → Nat → Nat → ClassId} (σ : Mem) (x1 : Int32) (x2 : Int32) (x3 : Int32) (x4 : Int32) (x5 : Int32) (x6 : Int32) (x7 : Int32) (x8 : Int32) : AMF (XM l D ad cid) M12_shoot 4 eI [.ref (ad 12 0 0), .int x1, .int x2, .int x3, .int x4, .int x5, .int x6, .int x7, .int x8] σ (F12_shoot σ x1 x2 x3 x4 x5 x6 x7 x8) := by
  refine AM.ofW (by decide +kernel) (Nat.le_of_ble_eq_true rfl) (ls := [(0, .ref (ad 12 0 0)), (1, .int x1), (2, .int x2), (3, .int x3), (4, .int x4), (5, .int x5), (6, .int x6), (7, .int x7), (8, .int x8)]) rfl ?_
  refine aw_entry ?_
  unfold F12_shoot
  refine aw_aload_n 0 dX12_shoot_0 rfl rfl ?_
  refine aw_iconst 0 dX12_shoot_1 (by decide) ?_
  refine aw_putI (fs_12_1 (by decide)) ci_12 (by decide) rfl rfl w_1457 dX12_shoot_2 ?_
  refine aw_bndM (fun s_1 => ?_)
  refine aw_aload_n 0 dX12_shoot_5 rfl rfl ?_
  refine aw_iconst 0 dX12_shoot_6 (by decide) ?_
  refine aw_putI (fs_12_0 (by decide)) ci_12 (by decide) rfl rfl w_1456 dX12_shoot_7 ?_
  refine aw_bndM (fun s_2 => ?_)
  refine aw_aload_n 0 dX12_shoot_10 rfl rfl ?_
  refine aw_iload_n 1 dX12_shoot_11 rfl rfl ?_
  refine aw_iload_n 2 dX12_shoot_12 rfl rfl ?_
  refine aw_callVO_B (c12_isShot s_2 x1 x2) (io_12 (by decide)) ci_12 (by decide) mk_12_isShot w_2042 w_115 w_2040 rfl rfl (Nat.le_of_ble_eq_true rfl) dX12_shoot_13 (fun v_3 => ?_)
  refine aw_bif_ne 25 dX12_shoot_16 (by decide) ?_ ?_
  · refine aw_iload_n 3 dX12_shoot_25 rfl rfl ?_
    refine aw_aload_n 0 dX12_shoot_26 rfl rfl ?_
    refine aw_getf (fg_12_20 (by decide)) ci_12 (by decide) w_1476 dX12_shoot_27 ?_
    refine aw_bipush 53 dX12_shoot_30 (by decide) ?_
    refine aw_iload_n 1 dX12_shoot_32 rfl rfl ?_
    refine aw_iadd dX12_shoot_33 ?_
    refine aw_iaload (ar_12_5 (by decide)) dX12_shoot_34 (fun v_4 => ?_)
    refine aw_callST_B (c12_isPuffing s_2 x3 v_4) (by decide) mk_12_isPuffing w_1961 w_1960 rfl rfl (Nat.le_of_ble_eq_true rfl) dX12_shoot_35 ?_
    refine aw_bif_eq 94 dX12_shoot_38 (by decide) ?_ ?_
    · refine aw_aload_n 0 dX12_shoot_94 rfl rfl ?_
      refine aw_iconst 5 dX12_shoot_95 (by decide) ?_
      refine aw_callVW_I (c12_refuse s_2 5) (io_12 (by decide)) ci_12 (by decide) mk_12_refuse w_1919 w_101 w_1917 rfl rfl (Nat.le_of_ble_eq_true rfl) dX12_shoot_96 (fun v_5 s_6 => ?_)
      exact aw_ireturn rfl dX12_shoot_99
    · refine aw_iload 4 dX12_shoot_41 rfl ?_
      refine aw_iload 5 dX12_shoot_43 rfl ?_
      refine aw_callST_B (c12_isAim s_2 x4 x5) (by decide) mk_12_isAim w_1994 w_1993 rfl rfl (Nat.le_of_ble_eq_true rfl) dX12_shoot_45 ?_
      refine aw_bif_eq 94 dX12_shoot_48 (by decide) ?_ ?_
      · refine aw_aload_n 0 dX12_shoot_94 rfl rfl ?_
        refine aw_iconst 5 dX12_shoot_95 (by decide) ?_
        refine aw_callVW_I (c12_refuse s_2 5) (io_12 (by decide)) ci_12 (by decide) mk_12_refuse w_1919 w_101 w_1917 rfl rfl (Nat.le_of_ble_eq_true rfl) dX12_shoot_96 (fun v_7 s_8 => ?_)
        exact aw_ireturn rfl dX12_shoot_99
      · refine aw_iload 6 dX12_shoot_51 rfl ?_
        refine aw_i2l dX12_shoot_53 ?_
        refine aw_ldc2 w_1679 dX12_shoot_54 ?_
        refine aw_lconst 1 dX12_shoot_57 (by decide) ?_
        refine aw_callST_B (c12_isIn s_2 (Int32.toInt64 x6) (-1) 1) (by decide) mk_12_isIn w_1752 w_1751 rfl rfl (Nat.le_of_ble_eq_true rfl) dX12_shoot_58 ?_
        refine aw_bif_eq 94 dX12_shoot_61 (by decide) ?_ ?_
        · refine aw_aload_n 0 dX12_shoot_94 rfl rfl ?_
          refine aw_iconst 5 dX12_shoot_95 (by decide) ?_
          refine aw_callVW_I (c12_refuse s_2 5) (io_12 (by decide)) ci_12 (by decide) mk_12_refuse w_1919 w_101 w_1917 rfl rfl (Nat.le_of_ble_eq_true rfl) dX12_shoot_96 (fun v_9 s_10 => ?_)
          exact aw_ireturn rfl dX12_shoot_99
        · refine aw_iload 7 dX12_shoot_64 rfl ?_
          refine aw_i2l dX12_shoot_66 ?_
          refine aw_ldc2 w_2172 dX12_shoot_67 ?_
          refine aw_ldc2 w_2173 dX12_shoot_70 ?_
          refine aw_callST_B (c12_isIn s_2 (Int32.toInt64 x7) (-6) 6) (by decide) mk_12_isIn w_1752 w_1751 rfl rfl (Nat.le_of_ble_eq_true rfl) dX12_shoot_73 ?_
          refine aw_bif_eq 94 dX12_shoot_76 (by decide) ?_ ?_
          · refine aw_aload_n 0 dX12_shoot_94 rfl rfl ?_
            refine aw_iconst 5 dX12_shoot_95 (by decide) ?_
            refine aw_callVW_I (c12_refuse s_2 5) (io_12 (by decide)) ci_12 (by decide) mk_12_refuse w_1919 w_101 w_1917 rfl rfl (Nat.le_of_ble_eq_true rfl) dX12_shoot_96 (fun v_11 s_12 => ?_)
            exact aw_ireturn rfl dX12_shoot_99
          · refine aw_iload 8 dX12_shoot_79 rfl ?_
            refine aw_i2l dX12_shoot_81 ?_
            refine aw_ldc2 w_2172 dX12_shoot_82 ?_
            refine aw_ldc2 w_2173 dX12_shoot_85 ?_
            refine aw_callST_B (c12_isIn s_2 (Int32.toInt64 x8) (-6) 6) (by decide) mk_12_isIn w_1752 w_1751 rfl rfl (Nat.le_of_ble_eq_true rfl) dX12_shoot_88 ?_
            refine aw_bif_ne 100 dX12_shoot_91 (by decide) ?_ ?_
            · refine aw_aload_n 0 dX12_shoot_100 rfl rfl ?_
              refine aw_getf (fg_12_20 (by decide)) ci_12 (by decide) w_1476 dX12_shoot_101 ?_
              refine aw_bipush 8 dX12_shoot_104 (by decide) ?_
              refine aw_iaload (ar_12_5 (by decide)) dX12_shoot_106 (fun v_13 => ?_)
              refine aw_bipush 60 dX12_shoot_107 (by decide) ?_
              refine aw_icmp_ne 119 dX12_shoot_109 (by decide) ?_ ?_
              · refine aw_aload_n 0 dX12_shoot_119 rfl rfl ?_
                refine aw_iload_n 2 dX12_shoot_120 rfl rfl ?_
                refine aw_iload_n 3 dX12_shoot_121 rfl rfl ?_
                refine aw_aload_n 0 dX12_shoot_122 rfl rfl ?_
                refine aw_getf (fg_12_20 (by decide)) ci_12 (by decide) w_1476 dX12_shoot_123 ?_
                refine aw_bipush 7 dX12_shoot_126 (by decide) ?_
                refine aw_iaload (ar_12_5 (by decide)) dX12_shoot_128 (fun v_14 => ?_)
                refine aw_callVW_B (c12_flies s_2 x2 x3 v_14) (io_12 (by decide)) ci_12 (by decide) mk_12_flies w_1982 w_109 w_1980 rfl rfl (Nat.le_of_ble_eq_true rfl) dX12_shoot_129 (fun v_15 s_16 => ?_)
                refine aw_bif_eq 154 dX12_shoot_132 (by decide) ?_ ?_
                · refine aw_aload_n 0 dX12_shoot_154 rfl rfl ?_
                  refine aw_bipush 9 dX12_shoot_155 (by decide) ?_
                  refine aw_callVW_I (c12_refuse s_16 9) (io_12 (by decide)) ci_12 (by decide) mk_12_refuse w_1919 w_101 w_1917 rfl rfl (Nat.le_of_ble_eq_true rfl) dX12_shoot_157 (fun v_17 s_18 => ?_)
                  exact aw_ireturn rfl dX12_shoot_160
                · refine aw_aload_n 0 dX12_shoot_135 rfl rfl ?_
                  refine aw_iload_n 1 dX12_shoot_136 rfl rfl ?_
                  refine aw_iload_n 2 dX12_shoot_137 rfl rfl ?_
                  refine aw_iload 4 dX12_shoot_138 rfl ?_
                  refine aw_iload 5 dX12_shoot_140 rfl ?_
                  refine aw_iload 6 dX12_shoot_142 rfl ?_
                  refine aw_iload 7 dX12_shoot_144 rfl ?_
                  refine aw_iload 8 dX12_shoot_146 rfl ?_
                  refine aw_callVW_I (c12_shoots s_16 x1 x2 x4 x5 x6 x7 x8) (io_12 (by decide)) ci_12 (by decide) mk_12_shoots w_2176 w_129 w_2174 rfl rfl (Nat.le_of_ble_eq_true rfl) dX12_shoot_148 (fun v_19 s_20 => ?_)
                  refine aw_goto 160 dX12_shoot_151 (by decide) ?_
                  exact aw_ireturn rfl dX12_shoot_160
              · refine aw_aload_n 0 dX12_shoot_112 rfl rfl ?_
                refine aw_bipush 7 dX12_shoot_113 (by decide) ?_
                refine aw_callVW_I (c12_refuse s_2 7) (io_12 (by decide)) ci_12 (by decide) mk_12_refuse w_1919 w_101 w_1917 rfl rfl (Nat.le_of_ble_eq_true rfl) dX12_shoot_115 (fun v_21 s_22 => ?_)
                exact aw_ireturn rfl dX12_shoot_118
            · refine aw_aload_n 0 dX12_shoot_94 rfl rfl ?_
              refine aw_iconst 5 dX12_shoot_95 (by decide) ?_
              refine aw_callVW_I (c12_refuse s_2 5) (io_12 (by decide)) ci_12 (by decide) mk_12_refuse w_1919 w_101 w_1917 rfl rfl (Nat.le_of_ble_eq_true rfl) dX12_shoot_96 (fun v_23 s_24 => ?_)
              exact aw_ireturn rfl dX12_shoot_99
  · refine aw_aload_n 0 dX12_shoot_19 rfl rfl ?_
    refine aw_iconst 2 dX12_shoot_20 (by decide) ?_
    refine aw_callVW_I (c12_refuse s_2 2) (io_12 (by decide)) ci_12 (by decide) mk_12_refuse w_1919 w_101 w_1917 rfl rfl (Nat.le_of_ble_eq_true rfl) dX12_shoot_21 (fun v_25 s_26 => ?_)
    exact aw_ireturn rfl dX12_shoot_24
def F12_wipe (σ : Mem)  : Option (Int32 × Mem) :=
  bnd (sI σ 12 0 0 1 0) fun s_1 => bnd (sI s_1 12 0 0 0 0) fun s_2 => (ald 3000 (gI s_2 12 0 5) 7).bind fun v_3 => chk 3000 7 <| bnd (sI s_2 12 0 5 (Int32.toNatClampNeg 7) 0) fun s_4 => some (v_3, s_4)
set_option maxRecDepth 20000 in
theorem c12_wipe {l : Launch} {D : va_G} {ad : Nat → Nat → Nat → Nat} {cid : Nat → Nat → Nat → ClassId} (σ : Mem)  : AMF (XM l D ad cid) M12_wipe 0 eI [.ref (ad 12 0 0)] σ (F12_wipe σ) := by
  refine AM.ofW (by decide +kernel) (Nat.le_of_ble_eq_true rfl) (ls := [(0, .ref (ad 12 0 0))]) rfl ?_
  refine aw_entry ?_
  unfold F12_wipe
  refine aw_aload_n 0 dX12_wipe_0 rfl rfl ?_
  refine aw_iconst 0 dX12_wipe_1 (by decide) ?_
  refine aw_putI (fs_12_1 (by decide)) ci_12 (by decide) rfl rfl w_1457 dX12_wipe_2 ?_
  refine aw_bndM (fun s_1 => ?_)
  refine aw_aload_n 0 dX12_wipe_5 rfl rfl ?_
  refine aw_iconst 0 dX12_wipe_6 (by decide) ?_
  refine aw_putI (fs_12_0 (by decide)) ci_12 (by decide) rfl rfl w_1456 dX12_wipe_7 ?_
  refine aw_bndM (fun s_2 => ?_)
  refine aw_aload_n 0 dX12_wipe_10 rfl rfl ?_
  refine aw_getf (fg_12_20 (by decide)) ci_12 (by decide) w_1476 dX12_wipe_11 ?_
  refine aw_bipush 7 dX12_wipe_14 (by decide) ?_
  refine aw_iaload (ar_12_5 (by decide)) dX12_wipe_16 (fun v_3 => ?_)
  refine aw_istore_n (ls' := [(0, .ref (ad 12 0 0)), (1, .int v_3)]) [1, 0] dX12_wipe_17 rfl (by decide) rfl ?_
  refine aw_aload_n 0 dX12_wipe_18 rfl rfl ?_
  refine aw_getf (fg_12_20 (by decide)) ci_12 (by decide) w_1476 dX12_wipe_19 ?_
  refine aw_bipush 7 dX12_wipe_22 (by decide) ?_
  refine aw_iconst 0 dX12_wipe_24 (by decide) ?_
  refine aw_iastore (ar_12_5 (by decide)) dX12_wipe_25 ?_
  refine aw_bndM (fun s_4 => ?_)
  refine aw_iload_n 1 dX12_wipe_26 rfl rfl ?_
  exact aw_ireturn rfl dX12_wipe_27
def F12_doAll_L2 (rec : Mem → Int32 → Option (Unit × Mem)) (x2 : Int32) : Nat → Mem → Int32 → Option ((Unit) × Mem)
  | 0 => fun _ _ => none
  | n + 1 => fun σ x3 =>
    if x2 ≤ x3 then (some ((), σ)) else (if (gB σ 12 0 0 48) = true then (some ((), σ)) else (bd (rec σ x3) fun _ s_1 => (ald 3000 (gI s_1 12 0 5) ((325 + (9 * x3)) + 8)).bind fun v_2 => (F12_doAll_L2 rec x2 n) s_1 v_2))
set_option maxRecDepth 20000 in
theorem c12_doAll_L2 {l : Launch} {D : va_G} {ad : Nat → Nat → Nat → Nat} {cid : Nat → Nat → Nat → ClassId} {α : Type} {emb : α → Option Value} (rec : Mem → Int32 → Option (Unit × Mem)) {lv lv2 : Nat} (hlv : lv2 < lv) (hbs : 0 ≤ lv) (hrec : ∀ (σ : Mem) (x1 : Int32), AMF (XM l D ad cid) M12_doOne lv2 eU [.ref (ad 12 0 0), .int x1] σ (rec σ x1)) (x2 : Int32) {G : Unit → Mem → Option (α × Mem)} (kx : ∀ r σ, AW (XM l D ad cid) M12_doAll lv emb [] 39 [] σ (G r σ)) : ∀ (n : Nat) (σ : Mem) (x3 : Int32), AW (XM l D ad cid) M12_doAll lv emb [(0, .ref (ad 12 0 0)), (2, .int x2), (3, .int x3)] 2 [] σ (bd (F12_doAll_L2 rec x2 n σ x3) G) := by
  intro n
  induction n with
  | zero => intros; exact aw_none
  | succ n ih =>
    intro σ x3
    refine aw_bdB ?_
    rw [F12_doAll_L2.eq_2]
    refine aw_iload_n 2 dX12_doAll_2 rfl rfl ?_
    refine aw_iload_n 1 dX12_doAll_3 rfl rfl ?_
    refine aw_icmp_ge 39 dX12_doAll_4 (by decide) ?_ ?_
    · refine aw_ls (ls' := []) [] rfl ?_
      exact kx () σ
    · refine aw_aload_n 0 dX12_doAll_7 rfl rfl ?_
      refine aw_getf (fg_12_48 (by decide)) ci_12 (by decide) w_1504 dX12_doAll_8 ?_
      refine aw_bif_ne 39 dX12_doAll_11 (by decide) ?_ ?_
      · refine aw_ls (ls' := []) [] rfl ?_
        exact kx () σ
      · refine aw_aload_n 0 dX12_doAll_14 rfl rfl ?_
        refine aw_iload_n 2 dX12_doAll_15 rfl rfl ?_
        refine aw_callVW_U (hrec σ x3) (io_12 (by decide)) ci_12 hlv mk_12_doOne w_2197 w_132 w_2195 rfl rfl (Nat.le_of_ble_eq_true rfl) dX12_doAll_16 (fun _ s_1 => ?_)
        refine aw_aload_n 0 dX12_doAll_19 rfl rfl ?_
        refine aw_getf (fg_12_20 (by decide)) ci_12 (by decide) w_1476 dX12_doAll_20 ?_
        refine aw_sipush 325 dX12_doAll_23 (by decide) ?_
        refine aw_bipush 9 dX12_doAll_26 (by decide) ?_
        refine aw_iload_n 2 dX12_doAll_28 rfl rfl ?_
        refine aw_imul dX12_doAll_29 ?_
        refine aw_iadd dX12_doAll_30 ?_
        refine aw_bipush 8 dX12_doAll_31 (by decide) ?_
        refine aw_iadd dX12_doAll_33 ?_
        refine aw_iaload (ar_12_5 (by decide)) dX12_doAll_34 (fun v_2 => ?_)
        refine aw_istore_n (ls' := [(0, .ref (ad 12 0 0)), (2, .int x2), (3, .int v_2)]) [1, 2, 0] dX12_doAll_35 rfl (by decide) rfl ?_
        refine aw_goto 2 dX12_doAll_36 (by decide) ?_
        exact ih s_1 v_2
def O12_doAll (rec : Mem → Int32 → Option (Unit × Mem)) (σ : Mem) (x1 : Int32) (x2 : Int32) : Option (Unit × Mem) :=
  bd (F12_doAll_L2 rec x2 fuelK σ x1) fun r_3 s_4 => some ((), s_4)
set_option maxRecDepth 20000 in
theorem c12_doAll {l : Launch} {D : va_G} {ad : Nat → Nat → Nat → Nat} {cid : Nat → Nat → Nat → ClassId} (rec : Mem → Int32 → Option (Unit × Mem)) {lv lv2 : Nat} (hlv : lv2 < lv) (hbs : 0 ≤ lv) (hrec : ∀ (σ : Mem) (x1 : Int32), AMF (XM l D ad cid) M12_doOne lv2 eU [.ref (ad 12 0 0), .int x1] σ (rec σ x1)) (σ : Mem) (x1 : Int32) (x2 : Int32) : AMF (XM l D ad cid) M12_doAll lv eU [.ref (ad 12 0 0), .int x1, .int x2] σ (O12_doAll rec σ x1 x2) := by
  refine AM.ofW (by decide +kernel) (Nat.le_of_ble_eq_true rfl) (ls := [(0, .ref (ad 12 0 0)), (1, .int x1), (2, .int x2)]) rfl ?_
  refine aw_entry ?_
  unfold O12_doAll
  refine aw_iload_n 1 dX12_doAll_0 rfl rfl ?_
  refine aw_istore_n (ls' := [(0, .ref (ad 12 0 0)), (2, .int x2), (3, .int x1)]) [1, 3, 0] dX12_doAll_1 rfl (by decide) rfl ?_
  refine aw_assocW ?_
  refine c12_doAll_L2 rec hlv hbs hrec x2 (fun r_3 s_4 => ?_) fuelK σ x1
  exact aw_return rfl dX12_doAll_39
def F12_plays (σ : Mem) (x1 : Int32) : Option (Unit × Mem) :=
  bnd (sI σ 12 0 0 49 x1) fun s_1 => bnd (sI s_1 12 0 0 50 0) fun s_2 => bnd (sI s_2 12 0 0 51 0) fun s_3 => bnd (sI s_3 12 0 0 52 0) fun s_4 => bnd (sI s_4 12 0 0 53 0) fun s_5 => bnd (sI s_5 12 0 0 54 0) fun s_6 => bnd (sI s_6 12 0 0 55 0) fun s_7 => bnd (sI s_7 12 0 0 56 0) fun s_8 => bnd (sI s_8 12 0 0 57 0) fun s_9 => bnd (sI s_9 12 0 0 58 0) fun s_10 => bnd (sI s_10 12 0 0 59 20) fun s_11 => bnd (sI s_11 12 0 0 60 0) fun s_12 => bnd (sB s_12 12 0 0 48 false) fun s_13 => (ald 3000 (gI s_13 12 0 5) 324).bind fun v_14 => bd (F12_doAll s_13 0 v_14) fun _ s_15 => some ((), s_15)
set_option maxRecDepth 20000 in
theorem c12_plays {l : Launch} {D : va_G} {ad : Nat → Nat → Nat → Nat} {cid : Nat → Nat → Nat → ClassId} (σ : Mem) (x1 : Int32) : AMF (XM l D ad cid) M12_plays 1 eU [.ref (ad 12 0 0), .int x1] σ (F12_plays σ x1) := by
  refine AM.ofW (by decide +kernel) (Nat.le_of_ble_eq_true rfl) (ls := [(0, .ref (ad 12 0 0)), (1, .int x1)]) rfl ?_
  refine aw_entry ?_
  unfold F12_plays
  refine aw_aload_n 0 dX12_plays_0 rfl rfl ?_
  refine aw_iload_n 1 dX12_plays_1 rfl rfl ?_
  refine aw_putI (fs_12_49 (by decide)) ci_12 (by decide) rfl rfl w_1505 dX12_plays_2 ?_
  refine aw_bndM (fun s_1 => ?_)
  refine aw_aload_n 0 dX12_plays_5 rfl rfl ?_
  refine aw_iconst 0 dX12_plays_6 (by decide) ?_
  refine aw_putI (fs_12_50 (by decide)) ci_12 (by decide) rfl rfl w_1506 dX12_plays_7 ?_
  refine aw_bndM (fun s_2 => ?_)
  refine aw_aload_n 0 dX12_plays_10 rfl rfl ?_
  refine aw_iconst 0 dX12_plays_11 (by decide) ?_
  refine aw_putI (fs_12_51 (by decide)) ci_12 (by decide) rfl rfl w_1507 dX12_plays_12 ?_
  refine aw_bndM (fun s_3 => ?_)
  refine aw_aload_n 0 dX12_plays_15 rfl rfl ?_
  refine aw_iconst 0 dX12_plays_16 (by decide) ?_
  refine aw_putI (fs_12_52 (by decide)) ci_12 (by decide) rfl rfl w_1508 dX12_plays_17 ?_
  refine aw_bndM (fun s_4 => ?_)
  refine aw_aload_n 0 dX12_plays_20 rfl rfl ?_
  refine aw_iconst 0 dX12_plays_21 (by decide) ?_
  refine aw_putI (fs_12_53 (by decide)) ci_12 (by decide) rfl rfl w_1509 dX12_plays_22 ?_
  refine aw_bndM (fun s_5 => ?_)
  refine aw_aload_n 0 dX12_plays_25 rfl rfl ?_
  refine aw_iconst 0 dX12_plays_26 (by decide) ?_
  refine aw_putI (fs_12_54 (by decide)) ci_12 (by decide) rfl rfl w_1510 dX12_plays_27 ?_
  refine aw_bndM (fun s_6 => ?_)
  refine aw_aload_n 0 dX12_plays_30 rfl rfl ?_
  refine aw_iconst 0 dX12_plays_31 (by decide) ?_
  refine aw_putI (fs_12_55 (by decide)) ci_12 (by decide) rfl rfl w_1511 dX12_plays_32 ?_
  refine aw_bndM (fun s_7 => ?_)
  refine aw_aload_n 0 dX12_plays_35 rfl rfl ?_
  refine aw_iconst 0 dX12_plays_36 (by decide) ?_
  refine aw_putI (fs_12_56 (by decide)) ci_12 (by decide) rfl rfl w_1512 dX12_plays_37 ?_
  refine aw_bndM (fun s_8 => ?_)
  refine aw_aload_n 0 dX12_plays_40 rfl rfl ?_
  refine aw_iconst 0 dX12_plays_41 (by decide) ?_
  refine aw_putI (fs_12_57 (by decide)) ci_12 (by decide) rfl rfl w_1513 dX12_plays_42 ?_
  refine aw_bndM (fun s_9 => ?_)
  refine aw_aload_n 0 dX12_plays_45 rfl rfl ?_
  refine aw_iconst 0 dX12_plays_46 (by decide) ?_
  refine aw_putI (fs_12_58 (by decide)) ci_12 (by decide) rfl rfl w_1514 dX12_plays_47 ?_
  refine aw_bndM (fun s_10 => ?_)
  refine aw_aload_n 0 dX12_plays_50 rfl rfl ?_
  refine aw_bipush 20 dX12_plays_51 (by decide) ?_
  refine aw_putI (fs_12_59 (by decide)) ci_12 (by decide) rfl rfl w_1515 dX12_plays_53 ?_
  refine aw_bndM (fun s_11 => ?_)
  refine aw_aload_n 0 dX12_plays_56 rfl rfl ?_
  refine aw_iconst 0 dX12_plays_57 (by decide) ?_
  refine aw_putI (fs_12_60 (by decide)) ci_12 (by decide) rfl rfl w_1516 dX12_plays_58 ?_
  refine aw_bndM (fun s_12 => ?_)
  refine aw_aload_n 0 dX12_plays_61 rfl rfl ?_
  refine aw_iconst 0 dX12_plays_62 (by decide) ?_
  refine aw_putB (v := false) rfl (fs_12_48 (by decide)) ci_12 (by decide) rfl rfl w_1504 dX12_plays_63 ?_
  refine aw_bndM (fun s_13 => ?_)
  refine aw_aload_n 0 dX12_plays_66 rfl rfl ?_
  refine aw_iconst 0 dX12_plays_67 (by decide) ?_
  refine aw_aload_n 0 dX12_plays_68 rfl rfl ?_
  refine aw_getf (fg_12_20 (by decide)) ci_12 (by decide) w_1476 dX12_plays_69 ?_
  refine aw_sipush 324 dX12_plays_72 (by decide) ?_
  refine aw_iaload (ar_12_5 (by decide)) dX12_plays_75 (fun v_14 => ?_)
  refine aw_callVW_U (c12_doAll s_13 0 v_14) (io_12 (by decide)) ci_12 (by decide) mk_12_doAll w_2193 w_131 w_2191 rfl rfl (Nat.le_of_ble_eq_true rfl) dX12_plays_76 (fun _ s_15 => ?_)
  exact aw_return rfl dX12_plays_79
def F12_play (σ : Mem) (x1 : Int32) : Option (Int32 × Mem) :=
  bnd (sI σ 12 0 0 1 0) fun s_1 => bnd (sI s_1 12 0 0 0 0) fun s_2 => if (F12_isIn (Int32.toInt64 x1) 0 9999) = true then ((ald 3000 (gI s_2 12 0 5) 323).bind fun v_3 => if v_3 = 0 then (bd (F12_refuse s_2 8) fun v_11 s_12 => some (v_11, s_12)) else (bd (F12_plays s_2 x1) fun _ s_4 => chk 5 0 <| bnd (sI s_4 12 0 12 (Int32.toNatClampNeg 0) (gI s_4 12 0 0 51)) fun s_5 => chk 5 1 <| bnd (sI s_5 12 0 12 (Int32.toNatClampNeg 1) (gI s_5 12 0 0 52)) fun s_6 => chk 5 2 <| bnd (sI s_6 12 0 12 (Int32.toNatClampNeg 2) (gI s_6 12 0 0 53)) fun s_7 => chk 5 3 <| bnd (sI s_7 12 0 12 (Int32.toNatClampNeg 3) (gI s_7 12 0 0 54)) fun s_8 => chk 5 4 <| bnd (sI s_8 12 0 12 (Int32.toNatClampNeg 4) (gI s_8 12 0 0 55)) fun s_9 => bnd (sB s_9 12 0 0 47 true) fun s_10 => some ((gI s_10 12 0 0 50), s_10))) else (bd (F12_refuse s_2 5) fun v_13 s_14 => some (v_13, s_14))
set_option maxRecDepth 20000 in
theorem c12_play {l : Launch} {D : va_G} {ad : Nat → Nat → Nat → Nat} {cid : Nat → Nat → Nat → ClassId} (σ : Mem) (x1 : Int32) : AMF (XM l D ad cid) M12_play 2 eI [.ref (ad 12 0 0), .int x1] σ (F12_play σ x1) := by
  refine AM.ofW (by decide +kernel) (Nat.le_of_ble_eq_true rfl) (ls := [(0, .ref (ad 12 0 0)), (1, .int x1)]) rfl ?_
  refine aw_entry ?_
  unfold F12_play
  refine aw_aload_n 0 dX12_play_0 rfl rfl ?_
  refine aw_iconst 0 dX12_play_1 (by decide) ?_
  refine aw_putI (fs_12_1 (by decide)) ci_12 (by decide) rfl rfl w_1457 dX12_play_2 ?_
  refine aw_bndM (fun s_1 => ?_)
  refine aw_aload_n 0 dX12_play_5 rfl rfl ?_
  refine aw_iconst 0 dX12_play_6 (by decide) ?_
  refine aw_putI (fs_12_0 (by decide)) ci_12 (by decide) rfl rfl w_1456 dX12_play_7 ?_
  refine aw_bndM (fun s_2 => ?_)
  refine aw_iload_n 1 dX12_play_10 rfl rfl ?_
  refine aw_i2l dX12_play_11 ?_
  refine aw_lconst 0 dX12_play_12 (by decide) ?_
  refine aw_ldc2 w_2186 dX12_play_13 ?_
  refine aw_callST_B (c12_isIn s_2 (Int32.toInt64 x1) 0 9999) (by decide) mk_12_isIn w_1752 w_1751 rfl rfl (Nat.le_of_ble_eq_true rfl) dX12_play_16 ?_
  refine aw_bif_ne 28 dX12_play_19 (by decide) ?_ ?_
  · refine aw_aload_n 0 dX12_play_28 rfl rfl ?_
    refine aw_getf (fg_12_20 (by decide)) ci_12 (by decide) w_1476 dX12_play_29 ?_
    refine aw_sipush 323 dX12_play_32 (by decide) ?_
    refine aw_iaload (ar_12_5 (by decide)) dX12_play_35 (fun v_3 => ?_)
    refine aw_if_ne 46 dX12_play_36 (by decide) ?_ ?_
    · refine aw_aload_n 0 dX12_play_46 rfl rfl ?_
      refine aw_iload_n 1 dX12_play_47 rfl rfl ?_
      refine aw_callVW_U (c12_plays s_2 x1) (io_12 (by decide)) ci_12 (by decide) mk_12_plays w_2189 w_130 w_2187 rfl rfl (Nat.le_of_ble_eq_true rfl) dX12_play_48 (fun _ s_4 => ?_)
      refine aw_aload_n 0 dX12_play_51 rfl rfl ?_
      refine aw_getf (fg_12_46 (by decide)) ci_12 (by decide) w_1502 dX12_play_52 ?_
      refine aw_iconst 0 dX12_play_55 (by decide) ?_
      refine aw_aload_n 0 dX12_play_56 rfl rfl ?_
      refine aw_getf (fg_12_51 (by decide)) ci_12 (by decide) w_1507 dX12_play_57 ?_
      refine aw_iastore (ar_12_12 (by decide)) dX12_play_60 ?_
      refine aw_bndM (fun s_5 => ?_)
      refine aw_aload_n 0 dX12_play_61 rfl rfl ?_
      refine aw_getf (fg_12_46 (by decide)) ci_12 (by decide) w_1502 dX12_play_62 ?_
      refine aw_iconst 1 dX12_play_65 (by decide) ?_
      refine aw_aload_n 0 dX12_play_66 rfl rfl ?_
      refine aw_getf (fg_12_52 (by decide)) ci_12 (by decide) w_1508 dX12_play_67 ?_
      refine aw_iastore (ar_12_12 (by decide)) dX12_play_70 ?_
      refine aw_bndM (fun s_6 => ?_)
      refine aw_aload_n 0 dX12_play_71 rfl rfl ?_
      refine aw_getf (fg_12_46 (by decide)) ci_12 (by decide) w_1502 dX12_play_72 ?_
      refine aw_iconst 2 dX12_play_75 (by decide) ?_
      refine aw_aload_n 0 dX12_play_76 rfl rfl ?_
      refine aw_getf (fg_12_53 (by decide)) ci_12 (by decide) w_1509 dX12_play_77 ?_
      refine aw_iastore (ar_12_12 (by decide)) dX12_play_80 ?_
      refine aw_bndM (fun s_7 => ?_)
      refine aw_aload_n 0 dX12_play_81 rfl rfl ?_
      refine aw_getf (fg_12_46 (by decide)) ci_12 (by decide) w_1502 dX12_play_82 ?_
      refine aw_iconst 3 dX12_play_85 (by decide) ?_
      refine aw_aload_n 0 dX12_play_86 rfl rfl ?_
      refine aw_getf (fg_12_54 (by decide)) ci_12 (by decide) w_1510 dX12_play_87 ?_
      refine aw_iastore (ar_12_12 (by decide)) dX12_play_90 ?_
      refine aw_bndM (fun s_8 => ?_)
      refine aw_aload_n 0 dX12_play_91 rfl rfl ?_
      refine aw_getf (fg_12_46 (by decide)) ci_12 (by decide) w_1502 dX12_play_92 ?_
      refine aw_iconst 4 dX12_play_95 (by decide) ?_
      refine aw_aload_n 0 dX12_play_96 rfl rfl ?_
      refine aw_getf (fg_12_55 (by decide)) ci_12 (by decide) w_1511 dX12_play_97 ?_
      refine aw_iastore (ar_12_12 (by decide)) dX12_play_100 ?_
      refine aw_bndM (fun s_9 => ?_)
      refine aw_aload_n 0 dX12_play_101 rfl rfl ?_
      refine aw_iconst 1 dX12_play_102 (by decide) ?_
      refine aw_putB (v := true) rfl (fs_12_47 (by decide)) ci_12 (by decide) rfl rfl w_1503 dX12_play_103 ?_
      refine aw_bndM (fun s_10 => ?_)
      refine aw_aload_n 0 dX12_play_106 rfl rfl ?_
      refine aw_getf (fg_12_50 (by decide)) ci_12 (by decide) w_1506 dX12_play_107 ?_
      exact aw_ireturn rfl dX12_play_110
    · refine aw_aload_n 0 dX12_play_39 rfl rfl ?_
      refine aw_bipush 8 dX12_play_40 (by decide) ?_
      refine aw_callVW_I (c12_refuse s_2 8) (io_12 (by decide)) ci_12 (by decide) mk_12_refuse w_1919 w_101 w_1917 rfl rfl (Nat.le_of_ble_eq_true rfl) dX12_play_42 (fun v_11 s_12 => ?_)
      exact aw_ireturn rfl dX12_play_45
  · refine aw_aload_n 0 dX12_play_22 rfl rfl ?_
    refine aw_iconst 5 dX12_play_23 (by decide) ?_
    refine aw_callVW_I (c12_refuse s_2 5) (io_12 (by decide)) ci_12 (by decide) mk_12_refuse w_1919 w_101 w_1917 rfl rfl (Nat.le_of_ble_eq_true rfl) dX12_play_24 (fun v_13 s_14 => ?_)
    exact aw_ireturn rfl dX12_play_27
def F12_played (σ : Mem) (x1 : Int32) : Option (Int32 × Mem) :=
  bnd (sI σ 12 0 0 1 0) fun s_1 => bnd (sI s_1 12 0 0 0 0) fun s_2 => if (F12_isIn (Int32.toInt64 x1) 0 4) = true then (if (gB s_2 12 0 0 47) = true then ((ald 5 (gI s_2 12 0 12) x1).bind fun v_5 => some (v_5, s_2)) else (bd (F12_refuse s_2 8) fun v_3 s_4 => some (v_3, s_4))) else (bd (F12_refuse s_2 5) fun v_6 s_7 => some (v_6, s_7))
set_option maxRecDepth 20000 in
theorem c12_played {l : Launch} {D : va_G} {ad : Nat → Nat → Nat → Nat} {cid : Nat → Nat → Nat → ClassId} (σ : Mem) (x1 : Int32) : AMF (XM l D ad cid) M12_played 1 eI [.ref (ad 12 0 0), .int x1] σ (F12_played σ x1) := by
  refine AM.ofW (by decide +kernel) (Nat.le_of_ble_eq_true rfl) (ls := [(0, .ref (ad 12 0 0)), (1, .int x1)]) rfl ?_
  refine aw_entry ?_
  unfold F12_played
  refine aw_aload_n 0 dX12_played_0 rfl rfl ?_
  refine aw_iconst 0 dX12_played_1 (by decide) ?_
  refine aw_putI (fs_12_1 (by decide)) ci_12 (by decide) rfl rfl w_1457 dX12_played_2 ?_
  refine aw_bndM (fun s_1 => ?_)
  refine aw_aload_n 0 dX12_played_5 rfl rfl ?_
  refine aw_iconst 0 dX12_played_6 (by decide) ?_
  refine aw_putI (fs_12_0 (by decide)) ci_12 (by decide) rfl rfl w_1456 dX12_played_7 ?_
  refine aw_bndM (fun s_2 => ?_)
  refine aw_iload_n 1 dX12_played_10 rfl rfl ?_
  refine aw_i2l dX12_played_11 ?_
  refine aw_lconst 0 dX12_played_12 (by decide) ?_
  refine aw_ldc2 w_1826 dX12_played_13 ?_
  refine aw_callST_B (c12_isIn s_2 (Int32.toInt64 x1) 0 4) (by decide) mk_12_isIn w_1752 w_1751 rfl rfl (Nat.le_of_ble_eq_true rfl) dX12_played_16 ?_
  refine aw_bif_ne 28 dX12_played_19 (by decide) ?_ ?_
  · refine aw_aload_n 0 dX12_played_28 rfl rfl ?_
    refine aw_getf (fg_12_47 (by decide)) ci_12 (by decide) w_1503 dX12_played_29 ?_
    refine aw_bif_eq 44 dX12_played_32 (by decide) ?_ ?_
    · refine aw_aload_n 0 dX12_played_44 rfl rfl ?_
      refine aw_bipush 8 dX12_played_45 (by decide) ?_
      refine aw_callVW_I (c12_refuse s_2 8) (io_12 (by decide)) ci_12 (by decide) mk_12_refuse w_1919 w_101 w_1917 rfl rfl (Nat.le_of_ble_eq_true rfl) dX12_played_47 (fun v_3 s_4 => ?_)
      exact aw_ireturn rfl dX12_played_50
    · refine aw_aload_n 0 dX12_played_35 rfl rfl ?_
      refine aw_getf (fg_12_46 (by decide)) ci_12 (by decide) w_1502 dX12_played_36 ?_
      refine aw_iload_n 1 dX12_played_39 rfl rfl ?_
      refine aw_iaload (ar_12_12 (by decide)) dX12_played_40 (fun v_5 => ?_)
      refine aw_goto 50 dX12_played_41 (by decide) ?_
      exact aw_ireturn rfl dX12_played_50
  · refine aw_aload_n 0 dX12_played_22 rfl rfl ?_
    refine aw_iconst 5 dX12_played_23 (by decide) ?_
    refine aw_callVW_I (c12_refuse s_2 5) (io_12 (by decide)) ci_12 (by decide) mk_12_refuse w_1919 w_101 w_1917 rfl rfl (Nat.le_of_ble_eq_true rfl) dX12_played_24 (fun v_6 s_7 => ?_)
    exact aw_ireturn rfl dX12_played_27
def F12_isAhead_L2 (x1 : Int32) : Nat → Mem → Int32 → Option Bool
  | 0 => fun _ _ => none
  | n + 1 => fun σ x2 =>
    (ald 3000 (gI σ 12 0 5) 6).bind fun v_1 => if v_1 ≤ x2 then (some true) else (if x2 = x1 then ((F12_isAhead_L2 x1 n) σ (x2 + 1)) else ((ald 3000 (gI σ 12 0 5) (77 + x2)).bind fun v_2 => (ald 3000 (gI σ 12 0 5) (77 + x1)).bind fun v_3 => if v_2 < v_3 then ((F12_isAhead_L2 x1 n) σ (x2 + 1)) else (some false)))
set_option maxRecDepth 20000 in
theorem c12_isAhead_L2 {l : Launch} {D : va_G} {ad : Nat → Nat → Nat → Nat} {cid : Nat → Nat → Nat → ClassId} (x1 : Int32) : ∀ (n : Nat) (σ : Mem) (x2 : Int32), AW (XM l D ad cid) M12_isAhead 0 eB [(0, .ref (ad 12 0 0)), (1, .int x1), (2, .int x2)] 2 [] σ ((F12_isAhead_L2 x1 n σ x2).bind (fun v => some (v, σ))) := by
  intro n
  induction n with
  | zero => intros; exact aw_none
  | succ n ih =>
    intro σ x2
    rw [F12_isAhead_L2.eq_2]
    refine aw_iload_n 2 dX12_isAhead_2 rfl rfl ?_
    refine aw_aload_n 0 dX12_isAhead_3 rfl rfl ?_
    refine aw_getf (fg_12_20 (by decide)) ci_12 (by decide) w_1476 dX12_isAhead_4 ?_
    refine aw_bipush 6 dX12_isAhead_7 (by decide) ?_
    refine aw_iaload (ar_12_5 (by decide)) dX12_isAhead_9 (fun v_1 => ?_)
    refine aw_icmp_ge 47 dX12_isAhead_10 (by decide) ?_ ?_
    · refine aw_iconst 1 dX12_isAhead_47 (by decide) ?_
      exact aw_zreturn (b := true) rfl rfl dX12_isAhead_48
    · refine aw_iload_n 2 dX12_isAhead_13 rfl rfl ?_
      refine aw_iload_n 1 dX12_isAhead_14 rfl rfl ?_
      refine aw_icmp_eq 41 dX12_isAhead_15 (by decide) ?_ ?_
      · refine aw_iinc (ls' := [(0, .ref (ad 12 0 0)), (1, .int x1), (2, .int (x2 + 1))]) (x2 + 1) 2 [1, 2, 0] dX12_isAhead_41 rfl (by rfl) (by decide) rfl ?_
        refine aw_goto 2 dX12_isAhead_44 (by decide) ?_
        exact ih σ (x2 + 1)
      · refine aw_aload_n 0 dX12_isAhead_18 rfl rfl ?_
        refine aw_getf (fg_12_20 (by decide)) ci_12 (by decide) w_1476 dX12_isAhead_19 ?_
        refine aw_bipush 77 dX12_isAhead_22 (by decide) ?_
        refine aw_iload_n 2 dX12_isAhead_24 rfl rfl ?_
        refine aw_iadd dX12_isAhead_25 ?_
        refine aw_iaload (ar_12_5 (by decide)) dX12_isAhead_26 (fun v_2 => ?_)
        refine aw_aload_n 0 dX12_isAhead_27 rfl rfl ?_
        refine aw_getf (fg_12_20 (by decide)) ci_12 (by decide) w_1476 dX12_isAhead_28 ?_
        refine aw_bipush 77 dX12_isAhead_31 (by decide) ?_
        refine aw_iload_n 1 dX12_isAhead_33 rfl rfl ?_
        refine aw_iadd dX12_isAhead_34 ?_
        refine aw_iaload (ar_12_5 (by decide)) dX12_isAhead_35 (fun v_3 => ?_)
        refine aw_icmp_lt 41 dX12_isAhead_36 (by decide) ?_ ?_
        · refine aw_iinc (ls' := [(0, .ref (ad 12 0 0)), (1, .int x1), (2, .int (x2 + 1))]) (x2 + 1) 2 [1, 2, 0] dX12_isAhead_41 rfl (by rfl) (by decide) rfl ?_
          refine aw_goto 2 dX12_isAhead_44 (by decide) ?_
          exact ih σ (x2 + 1)
        · refine aw_iconst 0 dX12_isAhead_39 (by decide) ?_
          exact aw_zreturn (b := false) rfl rfl dX12_isAhead_40
def F12_isAhead (σ : Mem) (x1 : Int32) : Option Bool :=
  F12_isAhead_L2 x1 fuelK σ 0
set_option maxRecDepth 20000 in
theorem c12_isAhead {l : Launch} {D : va_G} {ad : Nat → Nat → Nat → Nat} {cid : Nat → Nat → Nat → ClassId} (σ : Mem) (x1 : Int32) : AMF (XM l D ad cid) M12_isAhead 0 eB [.ref (ad 12 0 0), .int x1] σ (oM σ (F12_isAhead σ x1)) := by
  refine AM.ofW (by decide +kernel) (Nat.le_of_ble_eq_true rfl) (ls := [(0, .ref (ad 12 0 0)), (1, .int x1)]) rfl ?_
  refine aw_entryO ?_
  unfold F12_isAhead
  refine aw_iconst 0 dX12_isAhead_0 (by decide) ?_
  refine aw_istore_n (ls' := [(0, .ref (ad 12 0 0)), (1, .int x1), (2, .int 0)]) [1, 2, 0] dX12_isAhead_1 rfl (by decide) rfl ?_
  exact c12_isAhead_L2 x1 fuelK σ 0
def F12_wins_L78 (x1 : Int32) (x2 : Int32) (x3 : Int32) : Nat → Mem → Int32 → Option ((Unit) × Mem)
  | 0 => fun _ _ => none
  | n + 1 => fun σ x4 =>
    if 323 ≤ x4 then (some ((), σ)) else ((ald 3000 (gI σ 12 0 5) x4).bind fun v_7 => chk 323 x4 <| bnd (sI σ 12 0 6 (Int32.toNatClampNeg x4) v_7) fun s_8 => (F12_wins_L78 x1 x2 x3 n) s_8 (x4 + 1))
set_option maxRecDepth 20000 in
theorem c12_wins_L78 {l : Launch} {D : va_G} {ad : Nat → Nat → Nat → Nat} {cid : Nat → Nat → Nat → ClassId} {α : Type} {emb : α → Option Value} (x1 : Int32) (x2 : Int32) (x3 : Int32) {G : Unit → Mem → Option (α × Mem)} (kx : ∀ r σ, AW (XM l D ad cid) M12_wins 2 emb [(0, .ref (ad 12 0 0)), (1, .int x1), (2, .int x2), (3, .int x3)] 106 [] σ (G r σ)) : ∀ (n : Nat) (σ : Mem) (x4 : Int32), AW (XM l D ad cid) M12_wins 2 emb [(0, .ref (ad 12 0 0)), (1, .int x1), (2, .int x2), (3, .int x3), (4, .int x4)] 78 [] σ (bd (F12_wins_L78 x1 x2 x3 n σ x4) G) := by
  intro n
  induction n with
  | zero => intros; exact aw_none
  | succ n ih =>
    intro σ x4
    refine aw_bdB ?_
    rw [F12_wins_L78.eq_2]
    refine aw_iload 4 dX12_wins_78 rfl ?_
    refine aw_sipush 323 dX12_wins_80 (by decide) ?_
    refine aw_icmp_ge 106 dX12_wins_83 (by decide) ?_ ?_
    · refine aw_ls (ls' := [(0, .ref (ad 12 0 0)), (1, .int x1), (2, .int x2), (3, .int x3)]) [0, 1, 2, 3] rfl ?_
      exact kx () σ
    · refine aw_aload_n 0 dX12_wins_86 rfl rfl ?_
      refine aw_getf (fg_12_21 (by decide)) ci_12 (by decide) w_1477 dX12_wins_87 ?_
      refine aw_iload 4 dX12_wins_90 rfl ?_
      refine aw_aload_n 0 dX12_wins_92 rfl rfl ?_
      refine aw_getf (fg_12_20 (by decide)) ci_12 (by decide) w_1476 dX12_wins_93 ?_
      refine aw_iload 4 dX12_wins_96 rfl ?_
      refine aw_iaload (ar_12_5 (by decide)) dX12_wins_98 (fun v_7 => ?_)
      refine aw_iastore (ar_12_6 (by decide)) dX12_wins_99 ?_
      refine aw_bndM (fun s_8 => ?_)
      refine aw_iinc (ls' := [(0, .ref (ad 12 0 0)), (1, .int x1), (2, .int x2), (3, .int x3), (4, .int (x4 + 1))]) (x4 + 1) 4 [1, 2, 3, 4, 0] dX12_wins_100 rfl (by rfl) (by decide) rfl ?_
      refine aw_goto 78 dX12_wins_103 (by decide) ?_
      exact ih s_8 (x4 + 1)
def F12_wins_L147 (x1 : Int32) (x2 : Int32) (x3 : Int32) (x4 : Int32) (x5 : Int32) : Nat → Mem → Int32 → Option ((Unit) × Mem)
  | 0 => fun _ _ => none
  | n + 1 => fun σ x6 =>
    if 323 ≤ x6 then (some ((), σ)) else ((ald 323 (gI σ 12 0 6) x6).bind fun v_14 => chk 3000 x6 <| bnd (sI σ 12 0 5 (Int32.toNatClampNeg x6) v_14) fun s_15 => (F12_wins_L147 x1 x2 x3 x4 x5 n) s_15 (x6 + 1))
set_option maxRecDepth 20000 in
theorem c12_wins_L147 {l : Launch} {D : va_G} {ad : Nat → Nat → Nat → Nat} {cid : Nat → Nat → Nat → ClassId} {α : Type} {emb : α → Option Value} (x1 : Int32) (x2 : Int32) (x3 : Int32) (x4 : Int32) (x5 : Int32) {G : Unit → Mem → Option (α × Mem)} (kx : ∀ r σ, AW (XM l D ad cid) M12_wins 2 emb [(0, .ref (ad 12 0 0)), (1, .int x1), (2, .int x2), (3, .int x3), (4, .int x4), (5, .int x5)] 175 [] σ (G r σ)) : ∀ (n : Nat) (σ : Mem) (x6 : Int32), AW (XM l D ad cid) M12_wins 2 emb [(0, .ref (ad 12 0 0)), (1, .int x1), (2, .int x2), (3, .int x3), (4, .int x4), (5, .int x5), (6, .int x6)] 147 [] σ (bd (F12_wins_L147 x1 x2 x3 x4 x5 n σ x6) G) := by
  intro n
  induction n with
  | zero => intros; exact aw_none
  | succ n ih =>
    intro σ x6
    refine aw_bdB ?_
    rw [F12_wins_L147.eq_2]
    refine aw_iload 6 dX12_wins_147 rfl ?_
    refine aw_sipush 323 dX12_wins_149 (by decide) ?_
    refine aw_icmp_ge 175 dX12_wins_152 (by decide) ?_ ?_
    · refine aw_ls (ls' := [(0, .ref (ad 12 0 0)), (1, .int x1), (2, .int x2), (3, .int x3), (4, .int x4), (5, .int x5)]) [0, 1, 2, 3, 4, 5] rfl ?_
      exact kx () σ
    · refine aw_aload_n 0 dX12_wins_155 rfl rfl ?_
      refine aw_getf (fg_12_20 (by decide)) ci_12 (by decide) w_1476 dX12_wins_156 ?_
      refine aw_iload 6 dX12_wins_159 rfl ?_
      refine aw_aload_n 0 dX12_wins_161 rfl rfl ?_
      refine aw_getf (fg_12_21 (by decide)) ci_12 (by decide) w_1477 dX12_wins_162 ?_
      refine aw_iload 6 dX12_wins_165 rfl ?_
      refine aw_iaload (ar_12_6 (by decide)) dX12_wins_167 (fun v_14 => ?_)
      refine aw_iastore (ar_12_5 (by decide)) dX12_wins_168 ?_
      refine aw_bndM (fun s_15 => ?_)
      refine aw_iinc (ls' := [(0, .ref (ad 12 0 0)), (1, .int x1), (2, .int x2), (3, .int x3), (4, .int x4), (5, .int x5), (6, .int (x6 + 1))]) (x6 + 1) 6 [1, 2, 3, 4, 5, 6, 0] dX12_wins_169 rfl (by rfl) (by decide) rfl ?_
      refine aw_goto 147 dX12_wins_172 (by decide) ?_
      exact ih s_15 (x6 + 1)
def F12_wins_L112 (x1 : Int32) (x2 : Int32) (x3 : Int32) : Nat → Mem → Int32 → Int32 → Option ((Int32) × Mem)
  | 0 => fun _ _ _ => none
  | n + 1 => fun σ x4 x5 =>
    if x3 ≤ x5 then (some (x4, σ)) else (bd (F12_plays σ (x2 + x5)) fun _ s_11 => (F12_isAhead s_11 x1).bind fun v_12 => if v_12 = true then (bnd (x4 + 1) fun v_18 => bd (F12_wins_L147 x1 x2 x3 v_18 x5 fuelK s_11 0) fun r_19 s_20 => (F12_wins_L112 x1 x2 x3 n) s_20 v_18 (x5 + 1)) else (bnd (x4 + 0) fun v_13 => bd (F12_wins_L147 x1 x2 x3 v_13 x5 fuelK s_11 0) fun r_16 s_17 => (F12_wins_L112 x1 x2 x3 n) s_17 v_13 (x5 + 1)))
set_option maxRecDepth 20000 in
theorem c12_wins_L112 {l : Launch} {D : va_G} {ad : Nat → Nat → Nat → Nat} {cid : Nat → Nat → Nat → ClassId} {α : Type} {emb : α → Option Value} (x1 : Int32) (x2 : Int32) (x3 : Int32) {G : Int32 → Mem → Option (α × Mem)} (kx : ∀ r σ, AW (XM l D ad cid) M12_wins 2 emb [(0, .ref (ad 12 0 0)), (3, .int x3), (4, .int r)] 181 [] σ (G r σ)) : ∀ (n : Nat) (σ : Mem) (x4 : Int32) (x5 : Int32), AW (XM l D ad cid) M12_wins 2 emb [(0, .ref (ad 12 0 0)), (1, .int x1), (2, .int x2), (3, .int x3), (4, .int x4), (5, .int x5)] 112 [] σ (bd (F12_wins_L112 x1 x2 x3 n σ x4 x5) G) := by
  intro n
  induction n with
  | zero => intros; exact aw_none
  | succ n ih =>
    intro σ x4 x5
    refine aw_bdB ?_
    rw [F12_wins_L112.eq_2]
    refine aw_iload 5 dX12_wins_112 rfl ?_
    refine aw_iload_n 3 dX12_wins_114 rfl rfl ?_
    refine aw_icmp_ge 181 dX12_wins_115 (by decide) ?_ ?_
    · refine aw_ls (ls' := [(0, .ref (ad 12 0 0)), (3, .int x3), (4, .int x4)]) [0, 3, 4] rfl ?_
      exact kx x4 σ
    · refine aw_aload_n 0 dX12_wins_118 rfl rfl ?_
      refine aw_iload_n 2 dX12_wins_119 rfl rfl ?_
      refine aw_iload 5 dX12_wins_120 rfl ?_
      refine aw_iadd dX12_wins_122 ?_
      refine aw_callVW_U (c12_plays σ (x2 + x5)) (io_12 (by decide)) ci_12 (by decide) mk_12_plays w_2189 w_130 w_2187 rfl rfl (Nat.le_of_ble_eq_true rfl) dX12_wins_123 (fun _ s_11 => ?_)
      refine aw_iload 4 dX12_wins_126 rfl ?_
      refine aw_aload_n 0 dX12_wins_128 rfl rfl ?_
      refine aw_iload_n 1 dX12_wins_129 rfl rfl ?_
      refine aw_callVO_B (c12_isAhead s_11 x1) (io_12 (by decide)) ci_12 (by decide) mk_12_isAhead w_2230 w_138 w_2228 rfl rfl (Nat.le_of_ble_eq_true rfl) dX12_wins_130 (fun v_12 => ?_)
      refine aw_bif_eq 140 dX12_wins_133 (by decide) ?_ ?_
      · refine aw_iconst 0 dX12_wins_140 (by decide) ?_
        refine aw_iadd dX12_wins_141 ?_
        refine aw_bnd_int (fun v_13 => ?_)
        refine aw_istore (ls' := [(0, .ref (ad 12 0 0)), (1, .int x1), (2, .int x2), (3, .int x3), (4, .int v_13), (5, .int x5)]) [1, 2, 3, 4, 0, 5] dX12_wins_142 (by decide) rfl ?_
        refine aw_iconst 0 dX12_wins_144 (by decide) ?_
        refine aw_istore (ls' := [(0, .ref (ad 12 0 0)), (1, .int x1), (2, .int x2), (3, .int x3), (4, .int v_13), (5, .int x5), (6, .int 0)]) [1, 2, 3, 4, 5, 6, 0] dX12_wins_145 (by decide) rfl ?_
        refine aw_assocW ?_
        refine c12_wins_L147 x1 x2 x3 v_13 x5 (fun r_16 s_17 => ?_) fuelK s_11 0
        refine aw_iinc (ls' := [(0, .ref (ad 12 0 0)), (1, .int x1), (2, .int x2), (3, .int x3), (4, .int v_13), (5, .int (x5 + 1))]) (x5 + 1) 5 [1, 2, 3, 4, 5, 0] dX12_wins_175 rfl (by rfl) (by decide) rfl ?_
        refine aw_goto 112 dX12_wins_178 (by decide) ?_
        exact ih s_17 v_13 (x5 + 1)
      · refine aw_iconst 1 dX12_wins_136 (by decide) ?_
        refine aw_goto 141 dX12_wins_137 (by decide) ?_
        refine aw_iadd dX12_wins_141 ?_
        refine aw_bnd_int (fun v_18 => ?_)
        refine aw_istore (ls' := [(0, .ref (ad 12 0 0)), (1, .int x1), (2, .int x2), (3, .int x3), (4, .int v_18), (5, .int x5)]) [1, 2, 3, 4, 0, 5] dX12_wins_142 (by decide) rfl ?_
        refine aw_iconst 0 dX12_wins_144 (by decide) ?_
        refine aw_istore (ls' := [(0, .ref (ad 12 0 0)), (1, .int x1), (2, .int x2), (3, .int x3), (4, .int v_18), (5, .int x5), (6, .int 0)]) [1, 2, 3, 4, 5, 6, 0] dX12_wins_145 (by decide) rfl ?_
        refine aw_assocW ?_
        refine c12_wins_L147 x1 x2 x3 v_18 x5 (fun r_19 s_20 => ?_) fuelK s_11 0
        refine aw_iinc (ls' := [(0, .ref (ad 12 0 0)), (1, .int x1), (2, .int x2), (3, .int x3), (4, .int v_18), (5, .int (x5 + 1))]) (x5 + 1) 5 [1, 2, 3, 4, 5, 0] dX12_wins_175 rfl (by rfl) (by decide) rfl ?_
        refine aw_goto 112 dX12_wins_178 (by decide) ?_
        exact ih s_20 v_18 (x5 + 1)
def F12_wins (σ : Mem) (x1 : Int32) (x2 : Int32) (x3 : Int32) : Option (Bool × Mem) :=
  bnd (sI σ 12 0 0 1 0) fun s_1 => bnd (sI s_1 12 0 0 0 0) fun s_2 => (F12_isShooterAt s_2 x1).bind fun v_3 => if v_3 = true then (if (F12_isIn (Int32.toInt64 x3) 1 20) = true then (if (F12_isIn (Int32.toInt64 x2) 0 (Int32.toInt64 (10000 - x3))) = true then ((ald 3000 (gI s_2 12 0 5) 323).bind fun v_6 => if v_6 = 0 then (bd (F12_no s_2 8) fun v_25 s_26 => some (v_25, s_26)) else (bd (F12_wins_L78 x1 x2 x3 fuelK s_2 0) fun r_9 s_10 => bd (F12_wins_L112 x1 x2 x3 fuelK s_10 0 0) fun r_21 s_22 => bd (F12_fraction s_22 (Int32.toInt64 r_21) (Int32.toInt64 x3)) fun v_23 s_24 => some (v_23, s_24))) else (bd (F12_no s_2 5) fun v_27 s_28 => some (v_27, s_28))) else (bd (F12_no s_2 5) fun v_4 s_5 => some (v_4, s_5))) else (bd (F12_no s_2 2) fun v_29 s_30 => some (v_29, s_30))
set_option maxRecDepth 20000 in
theorem c12_wins {l : Launch} {D : va_G} {ad : Nat → Nat → Nat → Nat} {cid : Nat → Nat → Nat → ClassId} (σ : Mem) (x1 : Int32) (x2 : Int32) (x3 : Int32) : AMF (XM l D ad cid) M12_wins 2 eB [.ref (ad 12 0 0), .int x1, .int x2, .int x3] σ (F12_wins σ x1 x2 x3) := by
  refine AM.ofW (by decide +kernel) (Nat.le_of_ble_eq_true rfl) (ls := [(0, .ref (ad 12 0 0)), (1, .int x1), (2, .int x2), (3, .int x3)]) rfl ?_
  refine aw_entry ?_
  unfold F12_wins
  refine aw_aload_n 0 dX12_wins_0 rfl rfl ?_
  refine aw_iconst 0 dX12_wins_1 (by decide) ?_
  refine aw_putI (fs_12_1 (by decide)) ci_12 (by decide) rfl rfl w_1457 dX12_wins_2 ?_
  refine aw_bndM (fun s_1 => ?_)
  refine aw_aload_n 0 dX12_wins_5 rfl rfl ?_
  refine aw_iconst 0 dX12_wins_6 (by decide) ?_
  refine aw_putI (fs_12_0 (by decide)) ci_12 (by decide) rfl rfl w_1456 dX12_wins_7 ?_
  refine aw_bndM (fun s_2 => ?_)
  refine aw_aload_n 0 dX12_wins_10 rfl rfl ?_
  refine aw_iload_n 1 dX12_wins_11 rfl rfl ?_
  refine aw_callVO_B (c12_isShooterAt s_2 x1) (io_12 (by decide)) ci_12 (by decide) mk_12_isShooterAt w_1943 w_104 w_1941 rfl rfl (Nat.le_of_ble_eq_true rfl) dX12_wins_12 (fun v_3 => ?_)
  refine aw_bif_ne 24 dX12_wins_15 (by decide) ?_ ?_
  · refine aw_iload_n 3 dX12_wins_24 rfl rfl ?_
    refine aw_i2l dX12_wins_25 ?_
    refine aw_lconst 1 dX12_wins_26 (by decide) ?_
    refine aw_ldc2 w_1966 dX12_wins_27 ?_
    refine aw_callST_B (c12_isIn s_2 (Int32.toInt64 x3) 1 20) (by decide) mk_12_isIn w_1752 w_1751 rfl rfl (Nat.le_of_ble_eq_true rfl) dX12_wins_30 ?_
    refine aw_bif_eq 51 dX12_wins_33 (by decide) ?_ ?_
    · refine aw_aload_n 0 dX12_wins_51 rfl rfl ?_
      refine aw_iconst 5 dX12_wins_52 (by decide) ?_
      refine aw_callVW_B (c12_no s_2 5) (io_12 (by decide)) ci_12 (by decide) mk_12_no w_1658 w_49 w_1656 rfl rfl (Nat.le_of_ble_eq_true rfl) dX12_wins_53 (fun v_4 s_5 => ?_)
      exact aw_zreturn (b := v_4) rfl rfl dX12_wins_56
    · refine aw_iload_n 2 dX12_wins_36 rfl rfl ?_
      refine aw_i2l dX12_wins_37 ?_
      refine aw_lconst 0 dX12_wins_38 (by decide) ?_
      refine aw_sipush 10000 dX12_wins_39 (by decide) ?_
      refine aw_iload_n 3 dX12_wins_42 rfl rfl ?_
      refine aw_isub dX12_wins_43 ?_
      refine aw_i2l dX12_wins_44 ?_
      refine aw_callST_B (c12_isIn s_2 (Int32.toInt64 x2) 0 (Int32.toInt64 (10000 - x3))) (by decide) mk_12_isIn w_1752 w_1751 rfl rfl (Nat.le_of_ble_eq_true rfl) dX12_wins_45 ?_
      refine aw_bif_ne 57 dX12_wins_48 (by decide) ?_ ?_
      · refine aw_aload_n 0 dX12_wins_57 rfl rfl ?_
        refine aw_getf (fg_12_20 (by decide)) ci_12 (by decide) w_1476 dX12_wins_58 ?_
        refine aw_sipush 323 dX12_wins_61 (by decide) ?_
        refine aw_iaload (ar_12_5 (by decide)) dX12_wins_64 (fun v_6 => ?_)
        refine aw_if_ne 75 dX12_wins_65 (by decide) ?_ ?_
        · refine aw_iconst 0 dX12_wins_75 (by decide) ?_
          refine aw_istore (ls' := [(0, .ref (ad 12 0 0)), (1, .int x1), (2, .int x2), (3, .int x3), (4, .int 0)]) [1, 2, 3, 4, 0] dX12_wins_76 (by decide) rfl ?_
          refine aw_assocW ?_
          refine c12_wins_L78 x1 x2 x3 (fun r_9 s_10 => ?_) fuelK s_2 0
          refine aw_iconst 0 dX12_wins_106 (by decide) ?_
          refine aw_istore (ls' := [(0, .ref (ad 12 0 0)), (1, .int x1), (2, .int x2), (3, .int x3), (4, .int 0)]) [1, 2, 3, 4, 0] dX12_wins_107 (by decide) rfl ?_
          refine aw_iconst 0 dX12_wins_109 (by decide) ?_
          refine aw_istore (ls' := [(0, .ref (ad 12 0 0)), (1, .int x1), (2, .int x2), (3, .int x3), (4, .int 0), (5, .int 0)]) [1, 2, 3, 4, 5, 0] dX12_wins_110 (by decide) rfl ?_
          refine aw_assocW ?_
          refine c12_wins_L112 x1 x2 x3 (fun r_21 s_22 => ?_) fuelK s_10 0 0
          refine aw_aload_n 0 dX12_wins_181 rfl rfl ?_
          refine aw_iload 2 dX12_wins_182 rfl ?_
          refine aw_i2l dX12_wins_184 ?_
          refine aw_iload_n 1 dX12_wins_185 rfl rfl ?_
          refine aw_i2l dX12_wins_186 ?_
          refine aw_callVW_B (c12_fraction s_22 (Int32.toInt64 r_21) (Int32.toInt64 x3)) (io_12 (by decide)) ci_12 (by decide) mk_12_fraction w_2050 w_117 w_2048 rfl rfl (Nat.le_of_ble_eq_true rfl) dX12_wins_187 (fun v_23 s_24 => ?_)
          exact aw_zreturn (b := v_23) rfl rfl dX12_wins_190
        · refine aw_aload_n 0 dX12_wins_68 rfl rfl ?_
          refine aw_bipush 8 dX12_wins_69 (by decide) ?_
          refine aw_callVW_B (c12_no s_2 8) (io_12 (by decide)) ci_12 (by decide) mk_12_no w_1658 w_49 w_1656 rfl rfl (Nat.le_of_ble_eq_true rfl) dX12_wins_71 (fun v_25 s_26 => ?_)
          exact aw_zreturn (b := v_25) rfl rfl dX12_wins_74
      · refine aw_aload_n 0 dX12_wins_51 rfl rfl ?_
        refine aw_iconst 5 dX12_wins_52 (by decide) ?_
        refine aw_callVW_B (c12_no s_2 5) (io_12 (by decide)) ci_12 (by decide) mk_12_no w_1658 w_49 w_1656 rfl rfl (Nat.le_of_ble_eq_true rfl) dX12_wins_53 (fun v_27 s_28 => ?_)
        exact aw_zreturn (b := v_27) rfl rfl dX12_wins_56
  · refine aw_aload_n 0 dX12_wins_18 rfl rfl ?_
    refine aw_iconst 2 dX12_wins_19 (by decide) ?_
    refine aw_callVW_B (c12_no s_2 2) (io_12 (by decide)) ci_12 (by decide) mk_12_no w_1658 w_49 w_1656 rfl rfl (Nat.le_of_ble_eq_true rfl) dX12_wins_20 (fun v_29 s_30 => ?_)
    exact aw_zreturn (b := v_29) rfl rfl dX12_wins_23
def F12_mark (σ : Mem)  : Option (Int32 × Mem) :=
  bnd (sI σ 12 0 0 1 0) fun s_1 => bnd (sI s_1 12 0 0 0 0) fun s_2 => if (gI s_2 12 0 0 23) = 3 then (bd (F12_refuse s_2 7) fun v_5 s_6 => some (v_5, s_6)) else (bnd (sI s_2 12 0 0 23 ((gI s_2 12 0 0 23) + 1)) fun s_3 => bd (F12_copy s_3 0 (gI s_3 12 0 0 23)) fun _ s_4 => some ((gI s_4 12 0 0 23), s_4))
set_option maxRecDepth 20000 in
theorem c12_mark {l : Launch} {D : va_G} {ad : Nat → Nat → Nat → Nat} {cid : Nat → Nat → Nat → ClassId} (σ : Mem)  : AMF (XM l D ad cid) M12_mark 1 eI [.ref (ad 12 0 0)] σ (F12_mark σ) := by
  refine AM.ofW (by decide +kernel) (Nat.le_of_ble_eq_true rfl) (ls := [(0, .ref (ad 12 0 0))]) rfl ?_
  refine aw_entry ?_
  unfold F12_mark
  refine aw_aload_n 0 dX12_mark_0 rfl rfl ?_
  refine aw_iconst 0 dX12_mark_1 (by decide) ?_
  refine aw_putI (fs_12_1 (by decide)) ci_12 (by decide) rfl rfl w_1457 dX12_mark_2 ?_
  refine aw_bndM (fun s_1 => ?_)
  refine aw_aload_n 0 dX12_mark_5 rfl rfl ?_
  refine aw_iconst 0 dX12_mark_6 (by decide) ?_
  refine aw_putI (fs_12_0 (by decide)) ci_12 (by decide) rfl rfl w_1456 dX12_mark_7 ?_
  refine aw_bndM (fun s_2 => ?_)
  refine aw_aload_n 0 dX12_mark_10 rfl rfl ?_
  refine aw_getf (fg_12_23 (by decide)) ci_12 (by decide) w_1479 dX12_mark_11 ?_
  refine aw_iconst 3 dX12_mark_14 (by decide) ?_
  refine aw_icmp_ne 25 dX12_mark_15 (by decide) ?_ ?_
  · refine aw_aload_n 0 dX12_mark_25 rfl rfl ?_
    refine aw_dup dX12_mark_26 rfl ?_
    refine aw_getf (fg_12_23 (by decide)) ci_12 (by decide) w_1479 dX12_mark_27 ?_
    refine aw_iconst 1 dX12_mark_30 (by decide) ?_
    refine aw_iadd dX12_mark_31 ?_
    refine aw_putI (fs_12_23 (by decide)) ci_12 (by decide) rfl rfl w_1479 dX12_mark_32 ?_
    refine aw_bndM (fun s_3 => ?_)
    refine aw_aload_n 0 dX12_mark_35 rfl rfl ?_
    refine aw_iconst 0 dX12_mark_36 (by decide) ?_
    refine aw_aload_n 0 dX12_mark_37 rfl rfl ?_
    refine aw_getf (fg_12_23 (by decide)) ci_12 (by decide) w_1479 dX12_mark_38 ?_
    refine aw_callVW_U (c12_copy s_3 0 (gI s_3 12 0 0 23)) (io_12 (by decide)) ci_12 (by decide) mk_12_copy w_1886 w_95 w_1884 rfl rfl (Nat.le_of_ble_eq_true rfl) dX12_mark_41 (fun _ s_4 => ?_)
    refine aw_aload_n 0 dX12_mark_44 rfl rfl ?_
    refine aw_getf (fg_12_23 (by decide)) ci_12 (by decide) w_1479 dX12_mark_45 ?_
    exact aw_ireturn rfl dX12_mark_48
  · refine aw_aload_n 0 dX12_mark_18 rfl rfl ?_
    refine aw_bipush 7 dX12_mark_19 (by decide) ?_
    refine aw_callVW_I (c12_refuse s_2 7) (io_12 (by decide)) ci_12 (by decide) mk_12_refuse w_1919 w_101 w_1917 rfl rfl (Nat.le_of_ble_eq_true rfl) dX12_mark_21 (fun v_5 s_6 => ?_)
    exact aw_ireturn rfl dX12_mark_24
def F12_back (σ : Mem)  : Option (Int32 × Mem) :=
  bnd (sI σ 12 0 0 1 0) fun s_1 => bnd (sI s_1 12 0 0 0 0) fun s_2 => if (gI s_2 12 0 0 23) = 0 then (bd (F12_refuse s_2 8) fun v_5 s_6 => some (v_5, s_6)) else (bd (F12_copy s_2 (gI s_2 12 0 0 23) 0) fun _ s_3 => bnd (sI s_3 12 0 0 23 ((gI s_3 12 0 0 23) - 1)) fun s_4 => some ((gI s_4 12 0 0 23), s_4))
set_option maxRecDepth 20000 in
theorem c12_back {l : Launch} {D : va_G} {ad : Nat → Nat → Nat → Nat} {cid : Nat → Nat → Nat → ClassId} (σ : Mem)  : AMF (XM l D ad cid) M12_back 1 eI [.ref (ad 12 0 0)] σ (F12_back σ) := by
  refine AM.ofW (by decide +kernel) (Nat.le_of_ble_eq_true rfl) (ls := [(0, .ref (ad 12 0 0))]) rfl ?_
  refine aw_entry ?_
  unfold F12_back
  refine aw_aload_n 0 dX12_back_0 rfl rfl ?_
  refine aw_iconst 0 dX12_back_1 (by decide) ?_
  refine aw_putI (fs_12_1 (by decide)) ci_12 (by decide) rfl rfl w_1457 dX12_back_2 ?_
  refine aw_bndM (fun s_1 => ?_)
  refine aw_aload_n 0 dX12_back_5 rfl rfl ?_
  refine aw_iconst 0 dX12_back_6 (by decide) ?_
  refine aw_putI (fs_12_0 (by decide)) ci_12 (by decide) rfl rfl w_1456 dX12_back_7 ?_
  refine aw_bndM (fun s_2 => ?_)
  refine aw_aload_n 0 dX12_back_10 rfl rfl ?_
  refine aw_getf (fg_12_23 (by decide)) ci_12 (by decide) w_1479 dX12_back_11 ?_
  refine aw_if_ne 24 dX12_back_14 (by decide) ?_ ?_
  · refine aw_aload_n 0 dX12_back_24 rfl rfl ?_
    refine aw_aload_n 0 dX12_back_25 rfl rfl ?_
    refine aw_getf (fg_12_23 (by decide)) ci_12 (by decide) w_1479 dX12_back_26 ?_
    refine aw_iconst 0 dX12_back_29 (by decide) ?_
    refine aw_callVW_U (c12_copy s_2 (gI s_2 12 0 0 23) 0) (io_12 (by decide)) ci_12 (by decide) mk_12_copy w_1886 w_95 w_1884 rfl rfl (Nat.le_of_ble_eq_true rfl) dX12_back_30 (fun _ s_3 => ?_)
    refine aw_aload_n 0 dX12_back_33 rfl rfl ?_
    refine aw_dup dX12_back_34 rfl ?_
    refine aw_getf (fg_12_23 (by decide)) ci_12 (by decide) w_1479 dX12_back_35 ?_
    refine aw_iconst 1 dX12_back_38 (by decide) ?_
    refine aw_isub dX12_back_39 ?_
    refine aw_putI (fs_12_23 (by decide)) ci_12 (by decide) rfl rfl w_1479 dX12_back_40 ?_
    refine aw_bndM (fun s_4 => ?_)
    refine aw_aload_n 0 dX12_back_43 rfl rfl ?_
    refine aw_getf (fg_12_23 (by decide)) ci_12 (by decide) w_1479 dX12_back_44 ?_
    exact aw_ireturn rfl dX12_back_47
  · refine aw_aload_n 0 dX12_back_17 rfl rfl ?_
    refine aw_bipush 8 dX12_back_18 (by decide) ?_
    refine aw_callVW_I (c12_refuse s_2 8) (io_12 (by decide)) ci_12 (by decide) mk_12_refuse w_1919 w_101 w_1917 rfl rfl (Nat.le_of_ble_eq_true rfl) dX12_back_20 (fun v_5 s_6 => ?_)
    exact aw_ireturn rfl dX12_back_23
