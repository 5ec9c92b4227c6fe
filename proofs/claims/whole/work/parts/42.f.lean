def F12_readStep_L142 (rec : Mem → Int32 → Option (Unit × Mem)) (x1 : Int32) (z3 : Bool) (x4 : Int32) : Nat → Mem → Option ((Unit) × Mem)
  | 0 => fun _ => none
  | n + 1 => fun σ  =>
    if z3 = true then (if (gI σ 12 0 0 12) = 0 then (if (F12_isEnd σ) = true then (some ((), σ)) else (bd (rec σ (x1 + 1)) fun _ s_8 => (F12_readStep_L142 rec x1 z3 x4 n) s_8 )) else (some ((), σ))) else (some ((), σ))
set_option maxRecDepth 20000 in
theorem c12_readStep_L142 {l : Launch} {D : va_G} {ad : Nat → Nat → Nat → Nat} {cid : Nat → Nat → Nat → ClassId} {α : Type} {emb : α → Option Value} (rec : Mem → Int32 → Option (Unit × Mem)) {lv lv2 : Nat} (hlv : lv2 < lv) (hbs : 8 ≤ lv) (hrec : ∀ (σ : Mem) (x1 : Int32), AMF (XM l D ad cid) M12_readStep lv2 eU [.ref (ad 12 0 0), .int x1] σ (rec σ x1)) (x1 : Int32) (z3 : Bool) (x4 : Int32) {G : Unit → Mem → Option (α × Mem)} (kx : ∀ r σ, AW (XM l D ad cid) M12_readStep lv emb [(0, .ref (ad 12 0 0)), (3, .int (b2i z3)), (4, .int x4)] 170 [] σ (G r σ)) : ∀ (n : Nat) (σ : Mem) , AW (XM l D ad cid) M12_readStep lv emb [(0, .ref (ad 12 0 0)), (1, .int x1), (3, .int (b2i z3)), (4, .int x4)] 142 [] σ (bd (F12_readStep_L142 rec x1 z3 x4 n σ ) G) := by
  intro n
  induction n with
  | zero => intros; exact aw_none
  | succ n ih =>
    intro σ 
    refine aw_bdB ?_
    rw [F12_readStep_L142.eq_2]
    refine aw_iload_n 2 dX12_readStep_142 rfl rfl ?_
    refine aw_bif_eq 170 dX12_readStep_143 (by decide) ?_ ?_
    · refine aw_ls (ls' := [(0, .ref (ad 12 0 0)), (3, .int (b2i z3)), (4, .int x4)]) [0, 2, 3] rfl ?_
      exact kx () σ
    · refine aw_aload_n 0 dX12_readStep_146 rfl rfl ?_
      refine aw_getf (fg_12_12 (by decide)) ci_12 (by decide) w_1470 dX12_readStep_147 ?_
      refine aw_if_ne 170 dX12_readStep_150 (by decide) ?_ ?_
      · refine aw_ls (ls' := [(0, .ref (ad 12 0 0)), (3, .int (b2i z3)), (4, .int x4)]) [0, 2, 3] rfl ?_
        exact kx () σ
      · refine aw_aload_n 0 dX12_readStep_153 rfl rfl ?_
        refine aw_callVT_B (c12_isEnd σ ) (io_12 (by decide)) ci_12 (by omega) mk_12_isEnd w_1864 w_89 w_1862 rfl rfl (Nat.le_of_ble_eq_true rfl) dX12_readStep_154 ?_
        refine aw_bif_ne 170 dX12_readStep_157 (by decide) ?_ ?_
        · refine aw_ls (ls' := [(0, .ref (ad 12 0 0)), (3, .int (b2i z3)), (4, .int x4)]) [0, 2, 3] rfl ?_
          exact kx () σ
        · refine aw_aload_n 0 dX12_readStep_160 rfl rfl ?_
          refine aw_iload_n 1 dX12_readStep_161 rfl rfl ?_
          refine aw_iconst 1 dX12_readStep_162 (by decide) ?_
          refine aw_iadd dX12_readStep_163 ?_
          refine aw_callVW_U (hrec σ (x1 + 1)) (io_12 (by decide)) ci_12 hlv mk_12_readStep w_1896 w_96 w_1894 rfl rfl (Nat.le_of_ble_eq_true rfl) dX12_readStep_164 (fun _ s_8 => ?_)
          refine aw_goto 142 dX12_readStep_167 (by decide) ?_
          exact ih s_8 
def F12_readStep_p170 (σ : Mem) (z3 : Bool) (x4 : Int32) : Option (Unit × Mem) :=
  if z3 = true then (bd (F12_must σ (F12_isEnd σ)) fun _ s_12 => bd (F12_must s_12 (F12_isSign s_12 59)) fun _ s_13 => chk 3000 (x4 + 8) <| bnd (sI s_13 12 0 5 (Int32.toNatClampNeg (x4 + 8)) (gI s_13 12 0 0 27)) fun s_14 => some ((), s_14)) else (chk 3000 (x4 + 8) <| bnd (sI σ 12 0 5 (Int32.toNatClampNeg (x4 + 8)) (gI σ 12 0 0 27)) fun s_11 => some ((), s_11))
set_option maxRecDepth 20000 in
theorem c12_readStep_p170 {l : Launch} {D : va_G} {ad : Nat → Nat → Nat → Nat} {cid : Nat → Nat → Nat → ClassId} {lv : Nat} (hbs : 8 ≤ lv) (σ : Mem) (z3 : Bool) (x4 : Int32) : AW (XM l D ad cid) M12_readStep lv eU [(0, .ref (ad 12 0 0)), (3, .int (b2i z3)), (4, .int x4)] 170 [] σ ((F12_readStep_p170 σ z3 x4).bind some) := by
  unfold F12_readStep_p170
  refine aw_iload_n 1 dX12_readStep_170 rfl rfl ?_
  refine aw_bif_eq 192 dX12_readStep_171 (by decide) ?_ ?_
  · refine aw_aload_n 0 dX12_readStep_192 rfl rfl ?_
    refine aw_getf (fg_12_20 (by decide)) ci_12 (by decide) w_1478 dX12_readStep_193 ?_
    refine aw_iload 2 dX12_readStep_196 rfl ?_
    refine aw_bipush 8 dX12_readStep_198 (by decide) ?_
    refine aw_iadd dX12_readStep_200 ?_
    refine aw_aload_n 0 dX12_readStep_201 rfl rfl ?_
    refine aw_getf (fg_12_27 (by decide)) ci_12 (by decide) w_1485 dX12_readStep_202 ?_
    refine aw_iastore (ar_12_5 (by decide)) dX12_readStep_205 ?_
    refine aw_bndM (fun s_11 => ?_)
    exact aw_return rfl dX12_readStep_206
  · refine aw_aload_n 0 dX12_readStep_174 rfl rfl ?_
    refine aw_aload_n 0 dX12_readStep_175 rfl rfl ?_
    refine aw_callVT_B (c12_isEnd σ ) (io_12 (by decide)) ci_12 (by omega) mk_12_isEnd w_1864 w_89 w_1862 rfl rfl (Nat.le_of_ble_eq_true rfl) dX12_readStep_176 ?_
    refine aw_callVW_U (c12_must σ (F12_isEnd σ)) (io_12 (by decide)) ci_12 (by omega) mk_12_must w_1762 w_64 w_1760 rfl rfl (Nat.le_of_ble_eq_true rfl) dX12_readStep_179 (fun _ s_12 => ?_)
    refine aw_aload_n 0 dX12_readStep_182 rfl rfl ?_
    refine aw_aload_n 0 dX12_readStep_183 rfl rfl ?_
    refine aw_bipush 59 dX12_readStep_184 (by decide) ?_
    refine aw_callVT_B (c12_isSign s_12 59) (io_12 (by decide)) ci_12 (by omega) mk_12_isSign w_1880 w_93 w_1878 rfl rfl (Nat.le_of_ble_eq_true rfl) dX12_readStep_186 ?_
    refine aw_callVW_U (c12_must s_12 (F12_isSign s_12 59)) (io_12 (by decide)) ci_12 (by omega) mk_12_must w_1762 w_64 w_1760 rfl rfl (Nat.le_of_ble_eq_true rfl) dX12_readStep_189 (fun _ s_13 => ?_)
    refine aw_aload_n 0 dX12_readStep_192 rfl rfl ?_
    refine aw_getf (fg_12_20 (by decide)) ci_12 (by decide) w_1478 dX12_readStep_193 ?_
    refine aw_iload 2 dX12_readStep_196 rfl ?_
    refine aw_bipush 8 dX12_readStep_198 (by decide) ?_
    refine aw_iadd dX12_readStep_200 ?_
    refine aw_aload_n 0 dX12_readStep_201 rfl rfl ?_
    refine aw_getf (fg_12_27 (by decide)) ci_12 (by decide) w_1485 dX12_readStep_202 ?_
    refine aw_iastore (ar_12_5 (by decide)) dX12_readStep_205 ?_
    refine aw_bndM (fun s_14 => ?_)
    exact aw_return rfl dX12_readStep_206
def F12_readStep_p83 (rec : Mem → Int32 → Option (Unit × Mem)) (σ : Mem) (x1 : Int32) (x2 : Int32) (z3 : Bool) : Option (Unit × Mem) :=
  if (gI σ 12 0 0 12) ≤ 0 then (bnd (2725 + (9 * (gI σ 12 0 0 27))) fun v_2 => bnd (sI σ 12 0 0 27 ((gI σ 12 0 0 27) + 1)) fun s_3 => bd (F12_next s_3) fun _ s_4 => chk 3000 v_2 <| bnd (sI s_4 12 0 5 (Int32.toNatClampNeg v_2) x2) fun s_5 => bd (F12_readRest s_5 v_2) fun _ s_6 => bd (F12_must s_6 (F12_isSign s_6 59)) fun _ s_7 => bd (F12_readStep_L142 rec x1 z3 v_2 fuelK s_7 ) fun r_9 s_10 => F12_readStep_p170 s_10 z3 v_2) else (some ((), σ))
set_option maxRecDepth 20000 in
theorem c12_readStep_p83 {l : Launch} {D : va_G} {ad : Nat → Nat → Nat → Nat} {cid : Nat → Nat → Nat → ClassId} (rec : Mem → Int32 → Option (Unit × Mem)) {lv lv2 : Nat} (hlv : lv2 < lv) (hbs : 8 ≤ lv) (hrec : ∀ (σ : Mem) (x1 : Int32), AMF (XM l D ad cid) M12_readStep lv2 eU [.ref (ad 12 0 0), .int x1] σ (rec σ x1)) (σ : Mem) (x1 : Int32) (x2 : Int32) (z3 : Bool) : AW (XM l D ad cid) M12_readStep lv eU [(0, .ref (ad 12 0 0)), (1, .int x1), (2, .int x2), (3, .int (b2i z3))] 83 [] σ ((F12_readStep_p83 rec σ x1 x2 z3).bind some) := by
  unfold F12_readStep_p83
  refine aw_aload_n 0 dX12_readStep_83 rfl rfl ?_
  refine aw_getf (fg_12_12 (by decide)) ci_12 (by decide) w_1470 dX12_readStep_84 ?_
  refine aw_if_le 91 dX12_readStep_87 (by decide) ?_ ?_
  · refine aw_sipush 2725 dX12_readStep_91 (by decide) ?_
    refine aw_bipush 9 dX12_readStep_94 (by decide) ?_
    refine aw_aload_n 0 dX12_readStep_96 rfl rfl ?_
    refine aw_getf (fg_12_27 (by decide)) ci_12 (by decide) w_1485 dX12_readStep_97 ?_
    refine aw_imul dX12_readStep_100 ?_
    refine aw_iadd dX12_readStep_101 ?_
    refine aw_bnd_int (fun v_2 => ?_)
    refine aw_istore (ls' := [(0, .ref (ad 12 0 0)), (1, .int x1), (2, .int x2), (3, .int (b2i z3)), (4, .int v_2)]) [1, 2, 3, 4, 0] dX12_readStep_102 (by decide) rfl ?_
    refine aw_aload_n 0 dX12_readStep_104 rfl rfl ?_
    refine aw_dup dX12_readStep_105 rfl ?_
    refine aw_getf (fg_12_27 (by decide)) ci_12 (by decide) w_1485 dX12_readStep_106 ?_
    refine aw_iconst 1 dX12_readStep_109 (by decide) ?_
    refine aw_iadd dX12_readStep_110 ?_
    refine aw_putI (fs_12_27 (by decide)) ci_12 (by decide) rfl rfl w_1485 dX12_readStep_111 ?_
    refine aw_bndM (fun s_3 => ?_)
    refine aw_aload_n 0 dX12_readStep_114 rfl rfl ?_
    refine aw_callVW_U (c12_next s_3 ) (io_12 (by decide)) ci_12 (by omega) mk_12_next w_1708 w_54 w_1706 rfl rfl (Nat.le_of_ble_eq_true rfl) dX12_readStep_115 (fun _ s_4 => ?_)
    refine aw_aload_n 0 dX12_readStep_118 rfl rfl ?_
    refine aw_getf (fg_12_20 (by decide)) ci_12 (by decide) w_1478 dX12_readStep_119 ?_
    refine aw_iload 4 dX12_readStep_122 rfl ?_
    refine aw_iload_n 2 dX12_readStep_124 rfl rfl ?_
    refine aw_iastore (ar_12_5 (by decide)) dX12_readStep_125 ?_
    refine aw_bndM (fun s_5 => ?_)
    refine aw_aload_n 0 dX12_readStep_126 rfl rfl ?_
    refine aw_iload 4 dX12_readStep_127 rfl ?_
    refine aw_callVW_U (c12_readRest s_5 v_2) (io_12 (by decide)) ci_12 (by omega) mk_12_readRest w_1900 w_97 w_1898 rfl rfl (Nat.le_of_ble_eq_true rfl) dX12_readStep_129 (fun _ s_6 => ?_)
    refine aw_aload_n 0 dX12_readStep_132 rfl rfl ?_
    refine aw_aload_n 0 dX12_readStep_133 rfl rfl ?_
    refine aw_bipush 59 dX12_readStep_134 (by decide) ?_
    refine aw_callVT_B (c12_isSign s_6 59) (io_12 (by decide)) ci_12 (by omega) mk_12_isSign w_1880 w_93 w_1878 rfl rfl (Nat.le_of_ble_eq_true rfl) dX12_readStep_136 ?_
    refine aw_callVW_U (c12_must s_6 (F12_isSign s_6 59)) (io_12 (by decide)) ci_12 (by omega) mk_12_must w_1762 w_64 w_1760 rfl rfl (Nat.le_of_ble_eq_true rfl) dX12_readStep_139 (fun _ s_7 => ?_)
    refine aw_ls (ls' := [(0, .ref (ad 12 0 0)), (1, .int x1), (3, .int (b2i z3)), (4, .int v_2)]) [0, 1, 3, 4] rfl ?_
    refine aw_assocW ?_
    refine c12_readStep_L142 rec hlv hbs hrec x1 z3 v_2 (fun r_9 s_10 => ?_) fuelK s_7 
    exact c12_readStep_p170 hbs s_10 z3 v_2
  · exact aw_return rfl dX12_readStep_90
def F12_readStep_p57 (rec : Mem → Int32 → Option (Unit × Mem)) (σ : Mem) (x1 : Int32) (x2 : Int32) (z3 : Bool) : Option (Unit × Mem) :=
  if (gI σ 12 0 0 12) = 0 then (if z3 = true then (if x1 = 3 then (bd (F12_fail σ 7 (gI σ 12 0 0 15)) fun _ s_15 => F12_readStep_p83 rec s_15 x1 x2 z3) else (F12_readStep_p83 rec σ x1 x2 z3)) else (F12_readStep_p83 rec σ x1 x2 z3)) else (F12_readStep_p83 rec σ x1 x2 z3)
set_option maxRecDepth 20000 in
theorem c12_readStep_p57 {l : Launch} {D : va_G} {ad : Nat → Nat → Nat → Nat} {cid : Nat → Nat → Nat → ClassId} (rec : Mem → Int32 → Option (Unit × Mem)) {lv lv2 : Nat} (hlv : lv2 < lv) (hbs : 8 ≤ lv) (hrec : ∀ (σ : Mem) (x1 : Int32), AMF (XM l D ad cid) M12_readStep lv2 eU [.ref (ad 12 0 0), .int x1] σ (rec σ x1)) (σ : Mem) (x1 : Int32) (x2 : Int32) (z3 : Bool) : AW (XM l D ad cid) M12_readStep lv eU [(0, .ref (ad 12 0 0)), (1, .int x1), (2, .int x2), (3, .int (b2i z3))] 57 [] σ ((F12_readStep_p57 rec σ x1 x2 z3).bind some) := by
  unfold F12_readStep_p57
  refine aw_aload_n 0 dX12_readStep_57 rfl rfl ?_
  refine aw_getf (fg_12_12 (by decide)) ci_12 (by decide) w_1470 dX12_readStep_58 ?_
  refine aw_if_ne 83 dX12_readStep_61 (by decide) ?_ ?_
  · exact c12_readStep_p83 rec hlv hbs hrec σ x1 x2 z3
  · refine aw_iload_n 3 dX12_readStep_64 rfl rfl ?_
    refine aw_bif_eq 83 dX12_readStep_65 (by decide) ?_ ?_
    · exact c12_readStep_p83 rec hlv hbs hrec σ x1 x2 z3
    · refine aw_iload_n 1 dX12_readStep_68 rfl rfl ?_
      refine aw_iconst 3 dX12_readStep_69 (by decide) ?_
      refine aw_icmp_ne 83 dX12_readStep_70 (by decide) ?_ ?_
      · exact c12_readStep_p83 rec hlv hbs hrec σ x1 x2 z3
      · refine aw_aload_n 0 dX12_readStep_73 rfl rfl ?_
        refine aw_bipush 7 dX12_readStep_74 (by decide) ?_
        refine aw_aload_n 0 dX12_readStep_76 rfl rfl ?_
        refine aw_getf (fg_12_15 (by decide)) ci_12 (by decide) w_1473 dX12_readStep_77 ?_
        refine aw_callVW_U (c12_fail σ 7 (gI σ 12 0 0 15)) (io_12 (by decide)) ci_12 (by omega) mk_12_fail w_1743 w_60 w_1741 rfl rfl (Nat.le_of_ble_eq_true rfl) dX12_readStep_80 (fun _ s_15 => ?_)
        exact c12_readStep_p83 rec hlv hbs hrec s_15 x1 x2 z3
def F12_readStep_p31 (rec : Mem → Int32 → Option (Unit × Mem)) (σ : Mem) (x1 : Int32) (x2 : Int32) (z3 : Bool) : Option (Unit × Mem) :=
  if (gI σ 12 0 0 12) = 0 then (if (gI σ 12 0 0 27) = 30 then (bd (F12_fail σ 6 (gI σ 12 0 0 15)) fun _ s_16 => F12_readStep_p57 rec s_16 x1 x2 z3) else (F12_readStep_p57 rec σ x1 x2 z3)) else (F12_readStep_p57 rec σ x1 x2 z3)
set_option maxRecDepth 20000 in
theorem c12_readStep_p31 {l : Launch} {D : va_G} {ad : Nat → Nat → Nat → Nat} {cid : Nat → Nat → Nat → ClassId} (rec : Mem → Int32 → Option (Unit × Mem)) {lv lv2 : Nat} (hlv : lv2 < lv) (hbs : 8 ≤ lv) (hrec : ∀ (σ : Mem) (x1 : Int32), AMF (XM l D ad cid) M12_readStep lv2 eU [.ref (ad 12 0 0), .int x1] σ (rec σ x1)) (σ : Mem) (x1 : Int32) (x2 : Int32) (z3 : Bool) : AW (XM l D ad cid) M12_readStep lv eU [(0, .ref (ad 12 0 0)), (1, .int x1), (2, .int x2), (3, .int (b2i z3))] 31 [] σ ((F12_readStep_p31 rec σ x1 x2 z3).bind some) := by
  unfold F12_readStep_p31
  refine aw_aload_n 0 dX12_readStep_31 rfl rfl ?_
  refine aw_getf (fg_12_12 (by decide)) ci_12 (by decide) w_1470 dX12_readStep_32 ?_
  refine aw_if_ne 57 dX12_readStep_35 (by decide) ?_ ?_
  · exact c12_readStep_p57 rec hlv hbs hrec σ x1 x2 z3
  · refine aw_aload_n 0 dX12_readStep_38 rfl rfl ?_
    refine aw_getf (fg_12_27 (by decide)) ci_12 (by decide) w_1485 dX12_readStep_39 ?_
    refine aw_bipush 30 dX12_readStep_42 (by decide) ?_
    refine aw_icmp_ne 57 dX12_readStep_44 (by decide) ?_ ?_
    · exact c12_readStep_p57 rec hlv hbs hrec σ x1 x2 z3
    · refine aw_aload_n 0 dX12_readStep_47 rfl rfl ?_
      refine aw_bipush 6 dX12_readStep_48 (by decide) ?_
      refine aw_aload_n 0 dX12_readStep_50 rfl rfl ?_
      refine aw_getf (fg_12_15 (by decide)) ci_12 (by decide) w_1473 dX12_readStep_51 ?_
      refine aw_callVW_U (c12_fail σ 6 (gI σ 12 0 0 15)) (io_12 (by decide)) ci_12 (by omega) mk_12_fail w_1743 w_60 w_1741 rfl rfl (Nat.le_of_ble_eq_true rfl) dX12_readStep_54 (fun _ s_16 => ?_)
      exact c12_readStep_p57 rec hlv hbs hrec s_16 x1 x2 z3
def F12_readStep_p22 (rec : Mem → Int32 → Option (Unit × Mem)) (σ : Mem) (x1 : Int32) (x2 : Int32) (q0 : Bool) : Option (Unit × Mem) :=
  if 0 ≤ x2 then (F12_readStep_p31 rec σ x1 x2 q0) else (bd (F12_wrong σ) fun _ s_17 => F12_readStep_p31 rec s_17 x1 x2 q0)
set_option maxRecDepth 20000 in
theorem c12_readStep_p22 {l : Launch} {D : va_G} {ad : Nat → Nat → Nat → Nat} {cid : Nat → Nat → Nat → ClassId} (rec : Mem → Int32 → Option (Unit × Mem)) {lv lv2 : Nat} (hlv : lv2 < lv) (hbs : 8 ≤ lv) (hrec : ∀ (σ : Mem) (x1 : Int32), AMF (XM l D ad cid) M12_readStep lv2 eU [.ref (ad 12 0 0), .int x1] σ (rec σ x1)) (σ : Mem) (x1 : Int32) (x2 : Int32) (q0 : Bool) : AW (XM l D ad cid) M12_readStep lv eU [(0, .ref (ad 12 0 0)), (1, .int x1), (2, .int x2)] 22 [.int (b2i q0)] σ ((F12_readStep_p22 rec σ x1 x2 q0).bind some) := by
  unfold F12_readStep_p22
  refine aw_istore_n (ls' := [(0, .ref (ad 12 0 0)), (1, .int x1), (2, .int x2), (3, .int (b2i q0))]) [1, 2, 3, 0] dX12_readStep_22 rfl (by decide) rfl ?_
  refine aw_iload_n 2 dX12_readStep_23 rfl rfl ?_
  refine aw_if_ge 31 dX12_readStep_24 (by decide) ?_ ?_
  · exact c12_readStep_p31 rec hlv hbs hrec σ x1 x2 q0
  · refine aw_aload_n 0 dX12_readStep_27 rfl rfl ?_
    refine aw_callVW_U (c12_wrong σ ) (io_12 (by decide)) ci_12 (by omega) mk_12_wrong w_1751 w_62 w_1749 rfl rfl (Nat.le_of_ble_eq_true rfl) dX12_readStep_28 (fun _ s_17 => ?_)
    exact c12_readStep_p31 rec hlv hbs hrec s_17 x1 x2 q0
def O12_readStep (rec : Mem → Int32 → Option (Unit × Mem)) (σ : Mem) (x1 : Int32) : Option (Unit × Mem) :=
  bnd (F12_stepWord σ) fun v_1 => if v_1 = 7 then (F12_readStep_p22 rec σ x1 v_1 true) else (if v_1 = 8 then (F12_readStep_p22 rec σ x1 v_1 true) else (F12_readStep_p22 rec σ x1 v_1 false))
set_option maxRecDepth 20000 in
theorem co12_readStep {l : Launch} {D : va_G} {ad : Nat → Nat → Nat → Nat} {cid : Nat → Nat → Nat → ClassId} (rec : Mem → Int32 → Option (Unit × Mem)) {lv lv2 : Nat} (hlv : lv2 < lv) (hbs : 8 ≤ lv) (hrec : ∀ (σ : Mem) (x1 : Int32), AMF (XM l D ad cid) M12_readStep lv2 eU [.ref (ad 12 0 0), .int x1] σ (rec σ x1)) (σ : Mem) (x1 : Int32) : AMF (XM l D ad cid) M12_readStep lv eU [.ref (ad 12 0 0), .int x1] σ (O12_readStep rec σ x1) := by
  refine AM.ofW (by decide +kernel) (Nat.le_of_ble_eq_true rfl) (ls := [(0, .ref (ad 12 0 0)), (1, .int x1)]) rfl ?_
  refine aw_entry ?_
  unfold O12_readStep
  refine aw_aload_n 0 dX12_readStep_0 rfl rfl ?_
  refine aw_callVT_I (c12_stepWord σ ) (io_12 (by decide)) ci_12 (by omega) mk_12_stepWord w_1852 w_86 w_1850 rfl rfl (Nat.le_of_ble_eq_true rfl) dX12_readStep_1 ?_
  refine aw_bnd_int (fun v_1 => ?_)
  refine aw_istore_n (ls' := [(0, .ref (ad 12 0 0)), (1, .int x1), (2, .int v_1)]) [1, 2, 0] dX12_readStep_4 rfl (by decide) rfl ?_
  refine aw_iload_n 2 dX12_readStep_5 rfl rfl ?_
  refine aw_bipush 7 dX12_readStep_6 (by decide) ?_
  refine aw_icmp_eq 17 dX12_readStep_8 (by decide) ?_ ?_
  · refine aw_iconst 1 dX12_readStep_17 (by decide) ?_
    refine aw_goto 22 dX12_readStep_18 (by decide) ?_
    exact c12_readStep_p22 rec hlv hbs hrec σ x1 v_1 true
  · refine aw_iload_n 2 dX12_readStep_11 rfl rfl ?_
    refine aw_bipush 8 dX12_readStep_12 (by decide) ?_
    refine aw_icmp_ne 21 dX12_readStep_14 (by decide) ?_ ?_
    · refine aw_iconst 0 dX12_readStep_21 (by decide) ?_
      exact c12_readStep_p22 rec hlv hbs hrec σ x1 v_1 false
    · refine aw_iconst 1 dX12_readStep_17 (by decide) ?_
      refine aw_goto 22 dX12_readStep_18 (by decide) ?_
      exact c12_readStep_p22 rec hlv hbs hrec σ x1 v_1 true
def R12_readStep : Nat → Mem → Int32 → Option (Unit × Mem)
  | 0 => fun _ _ => none
  | d + 1 => fun σ x1 => O12_readStep (R12_readStep d) σ x1
theorem cr12_readStep {l : Launch} {D : va_G} {ad : Nat → Nat → Nat → Nat} {cid : Nat → Nat → Nat → ClassId} : ∀ (d : Nat) (σ : Mem) (x1 : Int32), AMF (XM l D ad cid) M12_readStep (8 + d) eU [.ref (ad 12 0 0), .int x1] σ (R12_readStep d σ x1) := by
  intro d
  induction d with
  | zero => intro σ x1 r σ1 h; cases h
  | succ d ih => intro σ x1; exact co12_readStep (R12_readStep d) (lv := 8 + (d + 1)) (lv2 := 8 + d) (by omega) (by omega) ih σ x1
def F12_readStep (σ : Mem) (x1 : Int32) : Option (Unit × Mem) := R12_readStep 8 σ x1
theorem c12_readStep {l : Launch} {D : va_G} {ad : Nat → Nat → Nat → Nat} {cid : Nat → Nat → Nat → ClassId} (σ : Mem) (x1 : Int32) : AMF (XM l D ad cid) M12_readStep 16 eU [.ref (ad 12 0 0), .int x1] σ (F12_readStep σ x1) := cr12_readStep 8 σ x1
def F12_round_L28  : Nat → Mem → Option ((Unit) × Mem)
  | 0 => fun _ => none
  | n + 1 => fun σ  =>
    if (gI σ 12 0 0 12) = 0 then (if (gI σ 12 0 0 14) = 0 then (some ((), σ)) else (bd (F12_readStep σ 0) fun _ s_6 => (F12_round_L28  n) s_6 )) else (some ((), σ))
set_option maxRecDepth 20000 in
theorem c12_round_L28 {l : Launch} {D : va_G} {ad : Nat → Nat → Nat → Nat} {cid : Nat → Nat → Nat → ClassId} {α : Type} {emb : α → Option Value}  {G : Unit → Mem → Option (α × Mem)} (kx : ∀ r σ, AW (XM l D ad cid) M12_round 17 emb [(0, .ref (ad 12 0 0))] 50 [] σ (G r σ)) : ∀ (n : Nat) (σ : Mem) , AW (XM l D ad cid) M12_round 17 emb [(0, .ref (ad 12 0 0))] 28 [] σ (bd (F12_round_L28  n σ ) G) := by
  intro n
  induction n with
  | zero => intros; exact aw_none
  | succ n ih =>
    intro σ 
    refine aw_bdB ?_
    rw [F12_round_L28.eq_2]
    refine aw_aload_n 0 dX12_round_28 rfl rfl ?_
    refine aw_getf (fg_12_12 (by decide)) ci_12 (by decide) w_1470 dX12_round_29 ?_
    refine aw_if_ne 50 dX12_round_32 (by decide) ?_ ?_
    · exact kx () σ
    · refine aw_aload_n 0 dX12_round_35 rfl rfl ?_
      refine aw_getf (fg_12_14 (by decide)) ci_12 (by decide) w_1472 dX12_round_36 ?_
      refine aw_if_eq 50 dX12_round_39 (by decide) ?_ ?_
      · exact kx () σ
      · refine aw_aload_n 0 dX12_round_42 rfl rfl ?_
        refine aw_iconst 0 dX12_round_43 (by decide) ?_
        refine aw_callVW_U (c12_readStep σ 0) (io_12 (by decide)) ci_12 (by decide) mk_12_readStep w_1896 w_96 w_1894 rfl rfl (Nat.le_of_ble_eq_true rfl) dX12_round_44 (fun _ s_6 => ?_)
        refine aw_goto 28 dX12_round_47 (by decide) ?_
        exact ih s_6 
def F12_round_L82  : Nat → Mem → Int32 → Option ((Unit) × Mem)
  | 0 => fun _ _ => none
  | n + 1 => fun σ x2 =>
    if (9 * (gI σ 12 0 0 27)) ≤ x2 then (some ((), σ)) else ((ald 3000 (gI σ 12 0 5) (2725 + x2)).bind fun v_13 => chk 3000 (325 + x2) <| bnd (sI σ 12 0 5 (Int32.toNatClampNeg (325 + x2)) v_13) fun s_14 => (F12_round_L82  n) s_14 (x2 + 1))
set_option maxRecDepth 20000 in
theorem c12_round_L82 {l : Launch} {D : va_G} {ad : Nat → Nat → Nat → Nat} {cid : Nat → Nat → Nat → ClassId} {α : Type} {emb : α → Option Value}  {G : Unit → Mem → Option (α × Mem)} (kx : ∀ r σ, AW (XM l D ad cid) M12_round 17 emb [(0, .ref (ad 12 0 0))] 119 [] σ (G r σ)) : ∀ (n : Nat) (σ : Mem) (x2 : Int32), AW (XM l D ad cid) M12_round 17 emb [(0, .ref (ad 12 0 0)), (2, .int x2)] 82 [] σ (bd (F12_round_L82  n σ x2) G) := by
  intro n
  induction n with
  | zero => intros; exact aw_none
  | succ n ih =>
    intro σ x2
    refine aw_bdB ?_
    rw [F12_round_L82.eq_2]
    refine aw_iload_n 1 dX12_round_82 rfl rfl ?_
    refine aw_bipush 9 dX12_round_83 (by decide) ?_
    refine aw_aload_n 0 dX12_round_85 rfl rfl ?_
    refine aw_getf (fg_12_27 (by decide)) ci_12 (by decide) w_1485 dX12_round_86 ?_
    refine aw_imul dX12_round_89 ?_
    refine aw_icmp_ge 119 dX12_round_90 (by decide) ?_ ?_
    · refine aw_ls (ls' := [(0, .ref (ad 12 0 0))]) [0] rfl ?_
      exact kx () σ
    · refine aw_aload_n 0 dX12_round_93 rfl rfl ?_
      refine aw_getf (fg_12_20 (by decide)) ci_12 (by decide) w_1478 dX12_round_94 ?_
      refine aw_sipush 325 dX12_round_97 (by decide) ?_
      refine aw_iload_n 1 dX12_round_100 rfl rfl ?_
      refine aw_iadd dX12_round_101 ?_
      refine aw_aload_n 0 dX12_round_102 rfl rfl ?_
      refine aw_getf (fg_12_20 (by decide)) ci_12 (by decide) w_1478 dX12_round_103 ?_
      refine aw_sipush 2725 dX12_round_106 (by decide) ?_
      refine aw_iload_n 1 dX12_round_109 rfl rfl ?_
      refine aw_iadd dX12_round_110 ?_
      refine aw_iaload (ar_12_5 (by decide)) dX12_round_111 (fun v_13 => ?_)
      refine aw_iastore (ar_12_5 (by decide)) dX12_round_112 ?_
      refine aw_bndM (fun s_14 => ?_)
      refine aw_iinc (ls' := [(0, .ref (ad 12 0 0)), (2, .int (x2 + 1))]) (x2 + 1) 1 [1, 0] dX12_round_113 rfl (by rfl) (by decide) rfl ?_
      refine aw_goto 82 dX12_round_116 (by decide) ?_
      exact ih s_14 (x2 + 1)
def F12_round_p50 (σ : Mem)  : Option (Int32 × Mem) :=
  bd (F12_isWell σ) fun v_9 s_10 => if v_9 = true then (chk 3000 323 <| bnd (sI s_10 12 0 5 (Int32.toNatClampNeg 323) 1) fun s_11 => chk 3000 324 <| bnd (sI s_11 12 0 5 (Int32.toNatClampNeg 324) (gI s_11 12 0 0 27)) fun s_12 => bd (F12_round_L82  fuelK s_12 0) fun r_15 s_16 => some ((gI s_16 12 0 0 27), s_16)) else (some ((-1), s_10))
set_option maxRecDepth 20000 in
theorem c12_round_p50 {l : Launch} {D : va_G} {ad : Nat → Nat → Nat → Nat} {cid : Nat → Nat → Nat → ClassId} (σ : Mem)  : AW (XM l D ad cid) M12_round 17 eI [(0, .ref (ad 12 0 0))] 50 [] σ ((F12_round_p50 σ).bind some) := by
  unfold F12_round_p50
  refine aw_aload_n 0 dX12_round_50 rfl rfl ?_
  refine aw_callVW_B (c12_isWell σ ) (io_12 (by decide)) ci_12 (by decide) mk_12_isWell w_1884 w_94 w_1882 rfl rfl (Nat.le_of_ble_eq_true rfl) dX12_round_51 (fun v_9 s_10 => ?_)
  refine aw_bif_ne 59 dX12_round_54 (by decide) ?_ ?_
  · refine aw_aload_n 0 dX12_round_59 rfl rfl ?_
    refine aw_getf (fg_12_20 (by decide)) ci_12 (by decide) w_1478 dX12_round_60 ?_
    refine aw_sipush 323 dX12_round_63 (by decide) ?_
    refine aw_iconst 1 dX12_round_66 (by decide) ?_
    refine aw_iastore (ar_12_5 (by decide)) dX12_round_67 ?_
    refine aw_bndM (fun s_11 => ?_)
    refine aw_aload_n 0 dX12_round_68 rfl rfl ?_
    refine aw_getf (fg_12_20 (by decide)) ci_12 (by decide) w_1478 dX12_round_69 ?_
    refine aw_sipush 324 dX12_round_72 (by decide) ?_
    refine aw_aload_n 0 dX12_round_75 rfl rfl ?_
    refine aw_getf (fg_12_27 (by decide)) ci_12 (by decide) w_1485 dX12_round_76 ?_
    refine aw_iastore (ar_12_5 (by decide)) dX12_round_79 ?_
    refine aw_bndM (fun s_12 => ?_)
    refine aw_iconst 0 dX12_round_80 (by decide) ?_
    refine aw_istore_n (ls' := [(0, .ref (ad 12 0 0)), (2, .int 0)]) [1, 0] dX12_round_81 rfl (by decide) rfl ?_
    refine aw_assocW ?_
    refine c12_round_L82  (fun r_15 s_16 => ?_) fuelK s_12 0
    refine aw_aload_n 0 dX12_round_119 rfl rfl ?_
    refine aw_getf (fg_12_27 (by decide)) ci_12 (by decide) w_1485 dX12_round_120 ?_
    exact aw_ireturn rfl dX12_round_123
  · refine aw_iconst (-1) dX12_round_57 (by decide) ?_
    exact aw_ireturn rfl dX12_round_58
def F12_round (σ : Mem) (x1 : Int32) : Option (Int32 × Mem) :=
  bnd (sI σ 12 0 0 1 0) fun s_1 => bnd (sI s_1 12 0 0 0 0) fun s_2 => bd (F12_opens s_2 x1 300) fun v_3 s_4 => if v_3 = true then (bnd (sI s_4 12 0 0 27 0) fun s_5 => bd (F12_round_L28  fuelK s_5 ) fun r_7 s_8 => F12_round_p50 s_8) else (some ((-1), s_4))
set_option maxRecDepth 20000 in
theorem c12_round {l : Launch} {D : va_G} {ad : Nat → Nat → Nat → Nat} {cid : Nat → Nat → Nat → ClassId} (σ : Mem) (x1 : Int32) : AMF (XM l D ad cid) M12_round 17 eI [.ref (ad 12 0 0), .int x1] σ (F12_round σ x1) := by
  refine AM.ofW (by decide +kernel) (Nat.le_of_ble_eq_true rfl) (ls := [(0, .ref (ad 12 0 0)), (1, .int x1)]) rfl ?_
  refine aw_entry ?_
  unfold F12_round
  refine aw_aload_n 0 dX12_round_0 rfl rfl ?_
  refine aw_iconst 0 dX12_round_1 (by decide) ?_
  refine aw_putI (fs_12_1 (by decide)) ci_12 (by decide) rfl rfl w_1459 dX12_round_2 ?_
  refine aw_bndM (fun s_1 => ?_)
  refine aw_aload_n 0 dX12_round_5 rfl rfl ?_
  refine aw_iconst 0 dX12_round_6 (by decide) ?_
  refine aw_putI (fs_12_0 (by decide)) ci_12 (by decide) rfl rfl w_1458 dX12_round_7 ?_
  refine aw_bndM (fun s_2 => ?_)
  refine aw_aload_n 0 dX12_round_10 rfl rfl ?_
  refine aw_iload_n 1 dX12_round_11 rfl rfl ?_
  refine aw_sipush 300 dX12_round_12 (by decide) ?_
  refine aw_callVW_B (c12_opens s_2 x1 300) (io_12 (by decide)) ci_12 (by decide) mk_12_opens w_1704 w_53 w_1702 rfl rfl (Nat.le_of_ble_eq_true rfl) dX12_round_15 (fun v_3 s_4 => ?_)
  refine aw_bif_ne 23 dX12_round_18 (by decide) ?_ ?_
  · refine aw_aload_n 0 dX12_round_23 rfl rfl ?_
    refine aw_iconst 0 dX12_round_24 (by decide) ?_
    refine aw_putI (fs_12_27 (by decide)) ci_12 (by decide) rfl rfl w_1485 dX12_round_25 ?_
    refine aw_bndM (fun s_5 => ?_)
    refine aw_ls (ls' := [(0, .ref (ad 12 0 0))]) [0] rfl ?_
    refine aw_assocW ?_
    refine c12_round_L28  (fun r_7 s_8 => ?_) fuelK s_5 
    exact c12_round_p50 s_8 
  · refine aw_iconst (-1) dX12_round_21 (by decide) ?_
    exact aw_ireturn rfl dX12_round_22
def F12_refuse (σ : Mem) (x1 : Int32) : Option (Int32 × Mem) :=
  bnd (sI σ 12 0 0 0 x1) fun s_1 => some ((-1), s_1)
set_option maxRecDepth 20000 in
theorem c12_refuse {l : Launch} {D : va_G} {ad : Nat → Nat → Nat → Nat} {cid : Nat → Nat → Nat → ClassId} (σ : Mem) (x1 : Int32) : AMF (XM l D ad cid) M12_refuse 0 eI [.ref (ad 12 0 0), .int x1] σ (F12_refuse σ x1) := by
  refine AM.ofW (by decide +kernel) (Nat.le_of_ble_eq_true rfl) (ls := [(0, .ref (ad 12 0 0)), (1, .int x1)]) rfl ?_
  refine aw_entry ?_
  unfold F12_refuse
  refine aw_aload_n 0 dX12_refuse_0 rfl rfl ?_
  refine aw_iload_n 1 dX12_refuse_1 rfl rfl ?_
  refine aw_putI (fs_12_0 (by decide)) ci_12 (by decide) rfl rfl w_1458 dX12_refuse_2 ?_
  refine aw_bndM (fun s_1 => ?_)
  refine aw_iconst (-1) dX12_refuse_5 (by decide) ?_
  exact aw_ireturn rfl dX12_refuse_6
def F12_many (σ : Mem) (x1 : Int32) : Option (Int32 × Mem) :=
  bnd (sI σ 12 0 0 1 0) fun s_1 => bnd (sI s_1 12 0 0 0 0) fun s_2 => if (F12_isIn (Int32.toInt64 x1) 0 8) = true then ((ald 3000 (gI s_2 12 0 5) x1).bind fun v_5 => some (v_5, s_2)) else (bd (F12_refuse s_2 5) fun v_3 s_4 => some (v_3, s_4))
set_option maxRecDepth 20000 in
theorem c12_many {l : Launch} {D : va_G} {ad : Nat → Nat → Nat → Nat} {cid : Nat → Nat → Nat → ClassId} (σ : Mem) (x1 : Int32) : AMF (XM l D ad cid) M12_many 1 eI [.ref (ad 12 0 0), .int x1] σ (F12_many σ x1) := by
  refine AM.ofW (by decide +kernel) (Nat.le_of_ble_eq_true rfl) (ls := [(0, .ref (ad 12 0 0)), (1, .int x1)]) rfl ?_
  refine aw_entry ?_
  unfold F12_many
  refine aw_aload_n 0 dX12_many_0 rfl rfl ?_
  refine aw_iconst 0 dX12_many_1 (by decide) ?_
  refine aw_putI (fs_12_1 (by decide)) ci_12 (by decide) rfl rfl w_1459 dX12_many_2 ?_
  refine aw_bndM (fun s_1 => ?_)
  refine aw_aload_n 0 dX12_many_5 rfl rfl ?_
  refine aw_iconst 0 dX12_many_6 (by decide) ?_
  refine aw_putI (fs_12_0 (by decide)) ci_12 (by decide) rfl rfl w_1458 dX12_many_7 ?_
  refine aw_bndM (fun s_2 => ?_)
  refine aw_iload_n 1 dX12_many_10 rfl rfl ?_
  refine aw_i2l dX12_many_11 ?_
  refine aw_lconst 0 dX12_many_12 (by decide) ?_
  refine aw_ldc2 w_1918 dX12_many_13 ?_
  refine aw_callST_B (c12_isIn s_2 (Int32.toInt64 x1) 0 8) (by decide) mk_12_isIn w_1754 w_1753 rfl rfl (Nat.le_of_ble_eq_true rfl) dX12_many_16 ?_
  refine aw_bif_eq 31 dX12_many_19 (by decide) ?_ ?_
  · refine aw_aload_n 0 dX12_many_31 rfl rfl ?_
    refine aw_iconst 5 dX12_many_32 (by decide) ?_
    refine aw_callVW_I (c12_refuse s_2 5) (io_12 (by decide)) ci_12 (by decide) mk_12_refuse w_1921 w_101 w_1919 rfl rfl (Nat.le_of_ble_eq_true rfl) dX12_many_33 (fun v_3 s_4 => ?_)
    exact aw_ireturn rfl dX12_many_36
  · refine aw_aload_n 0 dX12_many_22 rfl rfl ?_
    refine aw_getf (fg_12_20 (by decide)) ci_12 (by decide) w_1478 dX12_many_23 ?_
    refine aw_iload_n 1 dX12_many_26 rfl rfl ?_
    refine aw_iaload (ar_12_5 (by decide)) dX12_many_27 (fun v_5 => ?_)
    refine aw_goto 36 dX12_many_28 (by decide) ?_
    exact aw_ireturn rfl dX12_many_36
def F12_ring (σ : Mem) (x1 : Int32) (x2 : Int32) : Option (Int32 × Mem) :=
  bnd (sI σ 12 0 0 1 0) fun s_1 => bnd (sI s_1 12 0 0 0 0) fun s_2 => (ald 3000 (gI s_2 12 0 5) 4).bind fun v_3 => if (F12_isIn (Int32.toInt64 x1) 0 (Int32.toInt64 (v_3 - 1))) = true then (if x2 = 0 then ((ald 3000 (gI s_2 12 0 5) (9 + x1)).bind fun v_7 => some (v_7, s_2)) else (if x2 = 1 then ((ald 3000 (gI s_2 12 0 5) (15 + x1)).bind fun v_6 => some (v_6, s_2)) else (bd (F12_refuse s_2 5) fun v_4 s_5 => some (v_4, s_5)))) else (bd (F12_refuse s_2 2) fun v_8 s_9 => some (v_8, s_9))
set_option maxRecDepth 20000 in
theorem c12_ring {l : Launch} {D : va_G} {ad : Nat → Nat → Nat → Nat} {cid : Nat → Nat → Nat → ClassId} (σ : Mem) (x1 : Int32) (x2 : Int32) : AMF (XM l D ad cid) M12_ring 1 eI [.ref (ad 12 0 0), .int x1, .int x2] σ (F12_ring σ x1 x2) := by
  refine AM.ofW (by decide +kernel) (Nat.le_of_ble_eq_true rfl) (ls := [(0, .ref (ad 12 0 0)), (1, .int x1), (2, .int x2)]) rfl ?_
  refine aw_entry ?_
  unfold F12_ring
  refine aw_aload_n 0 dX12_ring_0 rfl rfl ?_
  refine aw_iconst 0 dX12_ring_1 (by decide) ?_
  refine aw_putI (fs_12_1 (by decide)) ci_12 (by decide) rfl rfl w_1459 dX12_ring_2 ?_
  refine aw_bndM (fun s_1 => ?_)
  refine aw_aload_n 0 dX12_ring_5 rfl rfl ?_
  refine aw_iconst 0 dX12_ring_6 (by decide) ?_
  refine aw_putI (fs_12_0 (by decide)) ci_12 (by decide) rfl rfl w_1458 dX12_ring_7 ?_
  refine aw_bndM (fun s_2 => ?_)
  refine aw_iload_n 1 dX12_ring_10 rfl rfl ?_
  refine aw_i2l dX12_ring_11 ?_
  refine aw_lconst 0 dX12_ring_12 (by decide) ?_
  refine aw_aload_n 0 dX12_ring_13 rfl rfl ?_
  refine aw_getf (fg_12_20 (by decide)) ci_12 (by decide) w_1478 dX12_ring_14 ?_
  refine aw_iconst 4 dX12_ring_17 (by decide) ?_
  refine aw_iaload (ar_12_5 (by decide)) dX12_ring_18 (fun v_3 => ?_)
  refine aw_iconst 1 dX12_ring_19 (by decide) ?_
  refine aw_isub dX12_ring_20 ?_
  refine aw_i2l dX12_ring_21 ?_
  refine aw_callST_B (c12_isIn s_2 (Int32.toInt64 x1) 0 (Int32.toInt64 (v_3 - 1))) (by decide) mk_12_isIn w_1754 w_1753 rfl rfl (Nat.le_of_ble_eq_true rfl) dX12_ring_22 ?_
  refine aw_bif_ne 34 dX12_ring_25 (by decide) ?_ ?_
  · refine aw_iload_n 2 dX12_ring_34 rfl rfl ?_
    refine aw_if_ne 50 dX12_ring_35 (by decide) ?_ ?_
    · refine aw_iload_n 2 dX12_ring_50 rfl rfl ?_
      refine aw_iconst 1 dX12_ring_51 (by decide) ?_
      refine aw_icmp_ne 67 dX12_ring_52 (by decide) ?_ ?_
      · refine aw_aload_n 0 dX12_ring_67 rfl rfl ?_
        refine aw_iconst 5 dX12_ring_68 (by decide) ?_
        refine aw_callVW_I (c12_refuse s_2 5) (io_12 (by decide)) ci_12 (by decide) mk_12_refuse w_1921 w_101 w_1919 rfl rfl (Nat.le_of_ble_eq_true rfl) dX12_ring_69 (fun v_4 s_5 => ?_)
        exact aw_ireturn rfl dX12_ring_72
      · refine aw_aload_n 0 dX12_ring_55 rfl rfl ?_
        refine aw_getf (fg_12_20 (by decide)) ci_12 (by decide) w_1478 dX12_ring_56 ?_
        refine aw_bipush 15 dX12_ring_59 (by decide) ?_
        refine aw_iload_n 1 dX12_ring_61 rfl rfl ?_
        refine aw_iadd dX12_ring_62 ?_
        refine aw_iaload (ar_12_5 (by decide)) dX12_ring_63 (fun v_6 => ?_)
        refine aw_goto 72 dX12_ring_64 (by decide) ?_
        exact aw_ireturn rfl dX12_ring_72
    · refine aw_aload_n 0 dX12_ring_38 rfl rfl ?_
      refine aw_getf (fg_12_20 (by decide)) ci_12 (by decide) w_1478 dX12_ring_39 ?_
      refine aw_bipush 9 dX12_ring_42 (by decide) ?_
      refine aw_iload_n 1 dX12_ring_44 rfl rfl ?_
      refine aw_iadd dX12_ring_45 ?_
      refine aw_iaload (ar_12_5 (by decide)) dX12_ring_46 (fun v_7 => ?_)
      refine aw_goto 72 dX12_ring_47 (by decide) ?_
      exact aw_ireturn rfl dX12_ring_72
  · refine aw_aload_n 0 dX12_ring_28 rfl rfl ?_
    refine aw_iconst 2 dX12_ring_29 (by decide) ?_
    refine aw_callVW_I (c12_refuse s_2 2) (io_12 (by decide)) ci_12 (by decide) mk_12_refuse w_1921 w_101 w_1919 rfl rfl (Nat.le_of_ble_eq_true rfl) dX12_ring_30 (fun v_8 s_9 => ?_)
    exact aw_ireturn rfl dX12_ring_33
def F12_isPeaAt (σ : Mem) (x1 : Int32) : Option Bool :=
  (ald 3000 (gI σ 12 0 5) 5).bind fun v_1 => some (F12_isIn (Int32.toInt64 x1) 0 (Int32.toInt64 (v_1 - 1)))
set_option maxRecDepth 20000 in
theorem c12_isPeaAt {l : Launch} {D : va_G} {ad : Nat → Nat → Nat → Nat} {cid : Nat → Nat → Nat → ClassId} (σ : Mem) (x1 : Int32) : AMF (XM l D ad cid) M12_isPeaAt 1 eB [.ref (ad 12 0 0), .int x1] σ (oM σ (F12_isPeaAt σ x1)) := by
  refine AM.ofW (by decide +kernel) (Nat.le_of_ble_eq_true rfl) (ls := [(0, .ref (ad 12 0 0)), (1, .int x1)]) rfl ?_
  refine aw_entryO ?_
  unfold F12_isPeaAt
  refine aw_iload_n 1 dX12_isPeaAt_0 rfl rfl ?_
  refine aw_i2l dX12_isPeaAt_1 ?_
  refine aw_lconst 0 dX12_isPeaAt_2 (by decide) ?_
  refine aw_aload_n 0 dX12_isPeaAt_3 rfl rfl ?_
  refine aw_getf (fg_12_20 (by decide)) ci_12 (by decide) w_1478 dX12_isPeaAt_4 ?_
  refine aw_iconst 5 dX12_isPeaAt_7 (by decide) ?_
  refine aw_iaload (ar_12_5 (by decide)) dX12_isPeaAt_8 (fun v_1 => ?_)
  refine aw_iconst 1 dX12_isPeaAt_9 (by decide) ?_
  refine aw_isub dX12_isPeaAt_10 ?_
  refine aw_i2l dX12_isPeaAt_11 ?_
  refine aw_callST_B (c12_isIn σ (Int32.toInt64 x1) 0 (Int32.toInt64 (v_1 - 1))) (by decide) mk_12_isIn w_1754 w_1753 rfl rfl (Nat.le_of_ble_eq_true rfl) dX12_isPeaAt_12 ?_
  exact aw_zreturn (b := (F12_isIn (Int32.toInt64 x1) 0 (Int32.toInt64 (v_1 - 1)))) rfl rfl dX12_isPeaAt_15
def F12_fitOf (σ : Mem) (x1 : Int32) : Option Int32 :=
  (ald 3000 (gI σ 12 0 5) 1).bind fun v_1 => (ald 3000 (gI σ 12 0 5) (21 + x1)).bind fun v_2 => some (v_1 - v_2)
set_option maxRecDepth 20000 in
theorem c12_fitOf {l : Launch} {D : va_G} {ad : Nat → Nat → Nat → Nat} {cid : Nat → Nat → Nat → ClassId} (σ : Mem) (x1 : Int32) : AMF (XM l D ad cid) M12_fitOf 0 eI [.ref (ad 12 0 0), .int x1] σ (oM σ (F12_fitOf σ x1)) := by
  refine AM.ofW (by decide +kernel) (Nat.le_of_ble_eq_true rfl) (ls := [(0, .ref (ad 12 0 0)), (1, .int x1)]) rfl ?_
  refine aw_entryO ?_
  unfold F12_fitOf
  refine aw_aload_n 0 dX12_fitOf_0 rfl rfl ?_
  refine aw_getf (fg_12_20 (by decide)) ci_12 (by decide) w_1478 dX12_fitOf_1 ?_
  refine aw_iconst 1 dX12_fitOf_4 (by decide) ?_
  refine aw_iaload (ar_12_5 (by decide)) dX12_fitOf_5 (fun v_1 => ?_)
  refine aw_aload_n 0 dX12_fitOf_6 rfl rfl ?_
  refine aw_getf (fg_12_20 (by decide)) ci_12 (by decide) w_1478 dX12_fitOf_7 ?_
  refine aw_bipush 21 dX12_fitOf_10 (by decide) ?_
  refine aw_iload_n 1 dX12_fitOf_12 rfl rfl ?_
  refine aw_iadd dX12_fitOf_13 ?_
  refine aw_iaload (ar_12_5 (by decide)) dX12_fitOf_14 (fun v_2 => ?_)
  refine aw_isub dX12_fitOf_15 ?_
  exact aw_ireturn rfl dX12_fitOf_16
def F12_pea (σ : Mem) (x1 : Int32) (x2 : Int32) : Option (Int32 × Mem) :=
  bnd (sI σ 12 0 0 1 0) fun s_1 => bnd (sI s_1 12 0 0 0 0) fun s_2 => (F12_isPeaAt s_2 x1).bind fun v_3 => if v_3 = true then (if x2 = 0 then ((ald 3000 (gI s_2 12 0 5) (21 + x1)).bind fun v_5 => some (v_5, s_2)) else if x2 = 1 then ((ald 3000 (gI s_2 12 0 5) (29 + x1)).bind fun v_7 => some (v_7, s_2)) else if x2 = 2 then ((ald 3000 (gI s_2 12 0 5) (37 + x1)).bind fun v_9 => some (v_9, s_2)) else if x2 = 3 then ((ald 3000 (gI s_2 12 0 5) (45 + x1)).bind fun v_11 => some (v_11, s_2)) else if x2 = 4 then ((F12_fitOf s_2 x1).bind fun v_13 => if 0 ≤ v_13 then ((F12_fitOf s_2 x1).bind fun v_14 => some (v_14, s_2)) else (bd (F12_refuse s_2 9) fun v_15 s_16 => some (v_15, s_16))) else if x2 = 5 then ((F12_fitOf s_2 x1).bind fun v_18 => if 0 ≤ v_18 then ((F12_fitOf s_2 x1).bind fun v_19 => if v_19 ≤ 2 then (some (0, s_2)) else (some (1, s_2))) else (bd (F12_refuse s_2 9) fun v_20 s_21 => some (v_20, s_21))) else (bd (F12_refuse s_2 5) fun v_22 s_23 => some (v_22, s_23))) else (bd (F12_refuse s_2 2) fun v_24 s_25 => some (v_24, s_25))
set_option maxRecDepth 20000 in
theorem c12_pea {l : Launch} {D : va_G} {ad : Nat → Nat → Nat → Nat} {cid : Nat → Nat → Nat → ClassId} (σ : Mem) (x1 : Int32) (x2 : Int32) : AMF (XM l D ad cid) M12_pea 2 eI [.ref (ad 12 0 0), .int x1, .int x2] σ (F12_pea σ x1 x2) := by
  refine AM.ofW (by decide +kernel) (Nat.le_of_ble_eq_true rfl) (ls := [(0, .ref (ad 12 0 0)), (1, .int x1), (2, .int x2)]) rfl ?_
  refine aw_entry ?_
  unfold F12_pea
  refine aw_aload_n 0 dX12_pea_0 rfl rfl ?_
  refine aw_iconst 0 dX12_pea_1 (by decide) ?_
  refine aw_putI (fs_12_1 (by decide)) ci_12 (by decide) rfl rfl w_1459 dX12_pea_2 ?_
  refine aw_bndM (fun s_1 => ?_)
  refine aw_aload_n 0 dX12_pea_5 rfl rfl ?_
  refine aw_iconst 0 dX12_pea_6 (by decide) ?_
  refine aw_putI (fs_12_0 (by decide)) ci_12 (by decide) rfl rfl w_1458 dX12_pea_7 ?_
  refine aw_bndM (fun s_2 => ?_)
  refine aw_aload_n 0 dX12_pea_10 rfl rfl ?_
  refine aw_iload_n 1 dX12_pea_11 rfl rfl ?_
  refine aw_callVO_B (c12_isPeaAt s_2 x1) (io_12 (by decide)) ci_12 (by decide) mk_12_isPeaAt w_1933 w_102 w_1931 rfl rfl (Nat.le_of_ble_eq_true rfl) dX12_pea_12 (fun v_3 => ?_)
  refine aw_bif_ne 24 dX12_pea_15 (by decide) ?_ ?_
  · refine aw_iload_n 2 dX12_pea_24 rfl rfl ?_
    refine aw_case (c := 0) (fun h_4 => ?_) (fun h_4 => ?_)
    · refine aw_tabIn 64 h_4 dX12_pea_25 (by decide) (by decide) rfl (by decide) ?_
      refine aw_aload_n 0 dX12_pea_64 rfl rfl ?_
      refine aw_getf (fg_12_20 (by decide)) ci_12 (by decide) w_1478 dX12_pea_65 ?_
      refine aw_bipush 21 dX12_pea_68 (by decide) ?_
      refine aw_iload_n 1 dX12_pea_70 rfl rfl ?_
      refine aw_iadd dX12_pea_71 ?_
      refine aw_iaload (ar_12_5 (by decide)) dX12_pea_72 (fun v_5 => ?_)
      exact aw_ireturn rfl dX12_pea_73
    refine aw_case (c := 1) (fun h_6 => ?_) (fun h_6 => ?_)
    · refine aw_tabIn 74 h_6 dX12_pea_25 (by decide) (by decide) rfl (by decide) ?_
      refine aw_aload_n 0 dX12_pea_74 rfl rfl ?_
      refine aw_getf (fg_12_20 (by decide)) ci_12 (by decide) w_1478 dX12_pea_75 ?_
      refine aw_bipush 29 dX12_pea_78 (by decide) ?_
      refine aw_iload_n 1 dX12_pea_80 rfl rfl ?_
      refine aw_iadd dX12_pea_81 ?_
      refine aw_iaload (ar_12_5 (by decide)) dX12_pea_82 (fun v_7 => ?_)
      exact aw_ireturn rfl dX12_pea_83
    refine aw_case (c := 2) (fun h_8 => ?_) (fun h_8 => ?_)
    · refine aw_tabIn 84 h_8 dX12_pea_25 (by decide) (by decide) rfl (by decide) ?_
      refine aw_aload_n 0 dX12_pea_84 rfl rfl ?_
      refine aw_getf (fg_12_20 (by decide)) ci_12 (by decide) w_1478 dX12_pea_85 ?_
      refine aw_bipush 37 dX12_pea_88 (by decide) ?_
      refine aw_iload_n 1 dX12_pea_90 rfl rfl ?_
      refine aw_iadd dX12_pea_91 ?_
      refine aw_iaload (ar_12_5 (by decide)) dX12_pea_92 (fun v_9 => ?_)
      exact aw_ireturn rfl dX12_pea_93
    refine aw_case (c := 3) (fun h_10 => ?_) (fun h_10 => ?_)
    · refine aw_tabIn 94 h_10 dX12_pea_25 (by decide) (by decide) rfl (by decide) ?_
      refine aw_aload_n 0 dX12_pea_94 rfl rfl ?_
      refine aw_getf (fg_12_20 (by decide)) ci_12 (by decide) w_1478 dX12_pea_95 ?_
      refine aw_bipush 45 dX12_pea_98 (by decide) ?_
      refine aw_iload_n 1 dX12_pea_100 rfl rfl ?_
      refine aw_iadd dX12_pea_101 ?_
      refine aw_iaload (ar_12_5 (by decide)) dX12_pea_102 (fun v_11 => ?_)
      exact aw_ireturn rfl dX12_pea_103
    refine aw_case (c := 4) (fun h_12 => ?_) (fun h_12 => ?_)
    · refine aw_tabIn 104 h_12 dX12_pea_25 (by decide) (by decide) rfl (by decide) ?_
      refine aw_aload_n 0 dX12_pea_104 rfl rfl ?_
      refine aw_iload_n 1 dX12_pea_105 rfl rfl ?_
      refine aw_callVO_I (c12_fitOf s_2 x1) (io_12 (by decide)) ci_12 (by decide) mk_12_fitOf w_1937 w_103 w_1935 rfl rfl (Nat.le_of_ble_eq_true rfl) dX12_pea_106 (fun v_13 => ?_)
      refine aw_if_ge 121 dX12_pea_109 (by decide) ?_ ?_
      · refine aw_aload_n 0 dX12_pea_121 rfl rfl ?_
        refine aw_iload_n 1 dX12_pea_122 rfl rfl ?_
        refine aw_callVO_I (c12_fitOf s_2 x1) (io_12 (by decide)) ci_12 (by decide) mk_12_fitOf w_1937 w_103 w_1935 rfl rfl (Nat.le_of_ble_eq_true rfl) dX12_pea_123 (fun v_14 => ?_)
        exact aw_ireturn rfl dX12_pea_126
      · refine aw_aload_n 0 dX12_pea_112 rfl rfl ?_
        refine aw_bipush 9 dX12_pea_113 (by decide) ?_
        refine aw_callVW_I (c12_refuse s_2 9) (io_12 (by decide)) ci_12 (by decide) mk_12_refuse w_1921 w_101 w_1919 rfl rfl (Nat.le_of_ble_eq_true rfl) dX12_pea_115 (fun v_15 s_16 => ?_)
        refine aw_goto 126 dX12_pea_118 (by decide) ?_
        exact aw_ireturn rfl dX12_pea_126
    refine aw_case (c := 5) (fun h_17 => ?_) (fun h_17 => ?_)
    · refine aw_tabIn 127 h_17 dX12_pea_25 (by decide) (by decide) rfl (by decide) ?_
      refine aw_aload_n 0 dX12_pea_127 rfl rfl ?_
      refine aw_iload_n 1 dX12_pea_128 rfl rfl ?_
      refine aw_callVO_I (c12_fitOf s_2 x1) (io_12 (by decide)) ci_12 (by decide) mk_12_fitOf w_1937 w_103 w_1935 rfl rfl (Nat.le_of_ble_eq_true rfl) dX12_pea_129 (fun v_18 => ?_)
      refine aw_if_ge 144 dX12_pea_132 (by decide) ?_ ?_
      · refine aw_aload_n 0 dX12_pea_144 rfl rfl ?_
        refine aw_iload_n 1 dX12_pea_145 rfl rfl ?_
        refine aw_callVO_I (c12_fitOf s_2 x1) (io_12 (by decide)) ci_12 (by decide) mk_12_fitOf w_1937 w_103 w_1935 rfl rfl (Nat.le_of_ble_eq_true rfl) dX12_pea_146 (fun v_19 => ?_)
        refine aw_iconst 2 dX12_pea_149 (by decide) ?_
        refine aw_icmp_le 157 dX12_pea_150 (by decide) ?_ ?_
        · refine aw_iconst 0 dX12_pea_157 (by decide) ?_
          exact aw_ireturn rfl dX12_pea_158
        · refine aw_iconst 1 dX12_pea_153 (by decide) ?_
          refine aw_goto 158 dX12_pea_154 (by decide) ?_
          exact aw_ireturn rfl dX12_pea_158
      · refine aw_aload_n 0 dX12_pea_135 rfl rfl ?_
        refine aw_bipush 9 dX12_pea_136 (by decide) ?_
        refine aw_callVW_I (c12_refuse s_2 9) (io_12 (by decide)) ci_12 (by decide) mk_12_refuse w_1921 w_101 w_1919 rfl rfl (Nat.le_of_ble_eq_true rfl) dX12_pea_138 (fun v_20 s_21 => ?_)
        refine aw_goto 158 dX12_pea_141 (by decide) ?_
        exact aw_ireturn rfl dX12_pea_158
    refine aw_tabOut 159 dX12_pea_25 (by have eh_4 : x2.toInt ≠ 0 := ne_toInt h_4; have eh_6 : x2.toInt ≠ 1 := ne_toInt h_6; have eh_8 : x2.toInt ≠ 2 := ne_toInt h_8; have eh_10 : x2.toInt ≠ 3 := ne_toInt h_10; have eh_12 : x2.toInt ≠ 4 := ne_toInt h_12; have eh_17 : x2.toInt ≠ 5 := ne_toInt h_17; omega) (by decide) ?_
    refine aw_aload_n 0 dX12_pea_159 rfl rfl ?_
    refine aw_iconst 5 dX12_pea_160 (by decide) ?_
    refine aw_callVW_I (c12_refuse s_2 5) (io_12 (by decide)) ci_12 (by decide) mk_12_refuse w_1921 w_101 w_1919 rfl rfl (Nat.le_of_ble_eq_true rfl) dX12_pea_161 (fun v_22 s_23 => ?_)
    exact aw_ireturn rfl dX12_pea_164
  · refine aw_aload_n 0 dX12_pea_18 rfl rfl ?_
    refine aw_iconst 2 dX12_pea_19 (by decide) ?_
    refine aw_callVW_I (c12_refuse s_2 2) (io_12 (by decide)) ci_12 (by decide) mk_12_refuse w_1921 w_101 w_1919 rfl rfl (Nat.le_of_ble_eq_true rfl) dX12_pea_20 (fun v_24 s_25 => ?_)
    exact aw_ireturn rfl dX12_pea_23
def F12_isShooterAt (σ : Mem) (x1 : Int32) : Option Bool :=
  (ald 3000 (gI σ 12 0 5) 6).bind fun v_1 => some (F12_isIn (Int32.toInt64 x1) 0 (Int32.toInt64 (v_1 - 1)))
set_option maxRecDepth 20000 in
theorem c12_isShooterAt {l : Launch} {D : va_G} {ad : Nat → Nat → Nat → Nat} {cid : Nat → Nat → Nat → ClassId} (σ : Mem) (x1 : Int32) : AMF (XM l D ad cid) M12_isShooterAt 1 eB [.ref (ad 12 0 0), .int x1] σ (oM σ (F12_isShooterAt σ x1)) := by
  refine AM.ofW (by decide +kernel) (Nat.le_of_ble_eq_true rfl) (ls := [(0, .ref (ad 12 0 0)), (1, .int x1)]) rfl ?_
  refine aw_entryO ?_
  unfold F12_isShooterAt
  refine aw_iload_n 1 dX12_isShooterAt_0 rfl rfl ?_
  refine aw_i2l dX12_isShooterAt_1 ?_
  refine aw_lconst 0 dX12_isShooterAt_2 (by decide) ?_
  refine aw_aload_n 0 dX12_isShooterAt_3 rfl rfl ?_
  refine aw_getf (fg_12_20 (by decide)) ci_12 (by decide) w_1478 dX12_isShooterAt_4 ?_
  refine aw_bipush 6 dX12_isShooterAt_7 (by decide) ?_
  refine aw_iaload (ar_12_5 (by decide)) dX12_isShooterAt_9 (fun v_1 => ?_)
  refine aw_iconst 1 dX12_isShooterAt_10 (by decide) ?_
  refine aw_isub dX12_isShooterAt_11 ?_
  refine aw_i2l dX12_isShooterAt_12 ?_
  refine aw_callST_B (c12_isIn σ (Int32.toInt64 x1) 0 (Int32.toInt64 (v_1 - 1))) (by decide) mk_12_isIn w_1754 w_1753 rfl rfl (Nat.le_of_ble_eq_true rfl) dX12_isShooterAt_13 ?_
  exact aw_zreturn (b := (F12_isIn (Int32.toInt64 x1) 0 (Int32.toInt64 (v_1 - 1)))) rfl rfl dX12_isShooterAt_16
def F12_holeAt (x0 : Int32) : Int32 :=
  (83 + (4 * x0))
set_option maxRecDepth 20000 in
theorem c12_holeAt {l : Launch} {D : va_G} {ad : Nat → Nat → Nat → Nat} {cid : Nat → Nat → Nat → ClassId} (σ : Mem) (x0 : Int32) : AMF (XM l D ad cid) M12_holeAt 0 eI [.int x0] σ (some (F12_holeAt x0, σ)) := by
  refine AM.ofW (by decide +kernel) (Nat.le_of_ble_eq_true rfl) (ls := [(0, .int x0)]) rfl ?_
  refine aw_entryT ?_
  unfold F12_holeAt
  refine aw_bipush 83 dX12_holeAt_0 (by decide) ?_
  refine aw_iconst 4 dX12_holeAt_2 (by decide) ?_
  refine aw_iload_n 0 dX12_holeAt_3 rfl rfl ?_
  refine aw_imul dX12_holeAt_4 ?_
  refine aw_iadd dX12_holeAt_5 ?_
  exact aw_ireturn rfl dX12_holeAt_6
def F12_isHoleOf_p19 (σ : Mem) (x1 : Int32) (x3 : Int32) : Option Bool :=
  if x3 < 0 then (some true) else ((ald 3000 (gI σ 12 0 5) ((F12_holeAt x1) + 3)).bind fun v_1 => if v_1 = x3 then (some true) else (some false))
set_option maxRecDepth 20000 in
theorem c12_isHoleOf_p19 {l : Launch} {D : va_G} {ad : Nat → Nat → Nat → Nat} {cid : Nat → Nat → Nat → ClassId} (σ : Mem) (x1 : Int32) (x3 : Int32) : AW (XM l D ad cid) M12_isHoleOf 1 eB [(0, .ref (ad 12 0 0)), (1, .int x1), (3, .int x3)] 19 [] σ ((F12_isHoleOf_p19 σ x1 x3).bind (fun v => some (v, σ))) := by
  unfold F12_isHoleOf_p19
  refine aw_iload_n 2 dX12_isHoleOf_19 rfl rfl ?_
  refine aw_if_lt 38 dX12_isHoleOf_20 (by decide) ?_ ?_
  · refine aw_iconst 1 dX12_isHoleOf_38 (by decide) ?_
    refine aw_goto 43 dX12_isHoleOf_39 (by decide) ?_
    exact aw_zreturn (b := true) rfl rfl dX12_isHoleOf_43
  · refine aw_aload_n 0 dX12_isHoleOf_23 rfl rfl ?_
    refine aw_getf (fg_12_20 (by decide)) ci_12 (by decide) w_1478 dX12_isHoleOf_24 ?_
    refine aw_iload_n 1 dX12_isHoleOf_27 rfl rfl ?_
    refine aw_callST_I (c12_holeAt σ x1) (by decide) mk_12_holeAt w_1956 w_1955 rfl rfl (Nat.le_of_ble_eq_true rfl) dX12_isHoleOf_28 ?_
    refine aw_iconst 3 dX12_isHoleOf_31 (by decide) ?_
    refine aw_iadd dX12_isHoleOf_32 ?_
    refine aw_iaload (ar_12_5 (by decide)) dX12_isHoleOf_33 (fun v_1 => ?_)
    refine aw_iload_n 2 dX12_isHoleOf_34 rfl rfl ?_
    refine aw_icmp_ne 42 dX12_isHoleOf_35 (by decide) ?_ ?_
    · refine aw_iconst 0 dX12_isHoleOf_42 (by decide) ?_
      exact aw_zreturn (b := false) rfl rfl dX12_isHoleOf_43
    · refine aw_iconst 1 dX12_isHoleOf_38 (by decide) ?_
      refine aw_goto 43 dX12_isHoleOf_39 (by decide) ?_
      exact aw_zreturn (b := true) rfl rfl dX12_isHoleOf_43
def F12_isHoleOf (σ : Mem) (x1 : Int32) (x2 : Int32) (x3 : Int32) : Option Bool :=
  if x2 < 0 then (F12_isHoleOf_p19 σ x1 x3) else ((ald 3000 (gI σ 12 0 5) ((F12_holeAt x1) + 2)).bind fun v_2 => if v_2 = x2 then (F12_isHoleOf_p19 σ x1 x3) else (some false))
set_option maxRecDepth 20000 in
theorem c12_isHoleOf {l : Launch} {D : va_G} {ad : Nat → Nat → Nat → Nat} {cid : Nat → Nat → Nat → ClassId} (σ : Mem) (x1 : Int32) (x2 : Int32) (x3 : Int32) : AMF (XM l D ad cid) M12_isHoleOf 1 eB [.ref (ad 12 0 0), .int x1, .int x2, .int x3] σ (oM σ (F12_isHoleOf σ x1 x2 x3)) := by
  refine AM.ofW (by decide +kernel) (Nat.le_of_ble_eq_true rfl) (ls := [(0, .ref (ad 12 0 0)), (1, .int x1), (2, .int x2), (3, .int x3)]) rfl ?_
  refine aw_entryO ?_
  unfold F12_isHoleOf
  refine aw_iload_n 2 dX12_isHoleOf_0 rfl rfl ?_
  refine aw_if_lt 19 dX12_isHoleOf_1 (by decide) ?_ ?_
  · refine aw_ls (ls' := [(0, .ref (ad 12 0 0)), (1, .int x1), (3, .int x3)]) [0, 1, 3] rfl ?_
    exact c12_isHoleOf_p19 σ x1 x3
  · refine aw_aload_n 0 dX12_isHoleOf_4 rfl rfl ?_
    refine aw_getf (fg_12_20 (by decide)) ci_12 (by decide) w_1478 dX12_isHoleOf_5 ?_
    refine aw_iload_n 1 dX12_isHoleOf_8 rfl rfl ?_
    refine aw_callST_I (c12_holeAt σ x1) (by decide) mk_12_holeAt w_1956 w_1955 rfl rfl (Nat.le_of_ble_eq_true rfl) dX12_isHoleOf_9 ?_
    refine aw_iconst 2 dX12_isHoleOf_12 (by decide) ?_
    refine aw_iadd dX12_isHoleOf_13 ?_
    refine aw_iaload (ar_12_5 (by decide)) dX12_isHoleOf_14 (fun v_2 => ?_)
    refine aw_iload_n 2 dX12_isHoleOf_15 rfl rfl ?_
    refine aw_icmp_ne 42 dX12_isHoleOf_16 (by decide) ?_ ?_
    · refine aw_iconst 0 dX12_isHoleOf_42 (by decide) ?_
      exact aw_zreturn (b := false) rfl rfl dX12_isHoleOf_43
    · refine aw_ls (ls' := [(0, .ref (ad 12 0 0)), (1, .int x1), (3, .int x3)]) [0, 1, 3] rfl ?_
      exact c12_isHoleOf_p19 σ x1 x3
def F12_holesOf_L5 (σ : Mem) (x1 : Int32) (x2 : Int32) : Nat → Int32 → Int32 → Option (Int32)
  | 0 => fun _ _ => none
  | n + 1 => fun x3 x4 =>
    (ald 3000 (gI σ 12 0 5) 8).bind fun v_1 => if v_1 ≤ x4 then (some x3) else ((F12_isHoleOf σ x4 x1 x2).bind fun v_2 => if v_2 = true then (bnd (x3 + 1) fun v_4 => (F12_holesOf_L5 σ x1 x2 n) v_4 (x4 + 1)) else (bnd (x3 + 0) fun v_3 => (F12_holesOf_L5 σ x1 x2 n) v_3 (x4 + 1)))
set_option maxRecDepth 20000 in
theorem c12_holesOf_L5 {l : Launch} {D : va_G} {ad : Nat → Nat → Nat → Nat} {cid : Nat → Nat → Nat → ClassId} {α : Type} {emb : α → Option Value} (σ : Mem) (x1 : Int32) (x2 : Int32) {G : Int32 → Option (α × Mem)} (kx : ∀ r, AW (XM l D ad cid) M12_holesOf 2 emb [(3, .int r)] 42 [] σ (G r)) : ∀ (n : Nat) (x3 : Int32) (x4 : Int32), AW (XM l D ad cid) M12_holesOf 2 emb [(0, .ref (ad 12 0 0)), (1, .int x1), (2, .int x2), (3, .int x3), (4, .int x4)] 5 [] σ ((F12_holesOf_L5 σ x1 x2 n x3 x4).bind G) := by
  intro n
  induction n with
  | zero => intros; exact aw_none
  | succ n ih =>
    intro x3 x4
    rw [F12_holesOf_L5.eq_2]
    refine aw_iload 4 dX12_holesOf_5 rfl ?_
    refine aw_aload_n 0 dX12_holesOf_7 rfl rfl ?_
    refine aw_getf (fg_12_20 (by decide)) ci_12 (by decide) w_1478 dX12_holesOf_8 ?_
    refine aw_bipush 8 dX12_holesOf_11 (by decide) ?_
    refine aw_iaload (ar_12_5 (by decide)) dX12_holesOf_13 (fun v_1 => ?_)
    refine aw_icmp_ge 42 dX12_holesOf_14 (by decide) ?_ ?_
    · refine aw_ls (ls' := [(3, .int x3)]) [3] rfl ?_
      exact kx x3
    · refine aw_iload_n 3 dX12_holesOf_17 rfl rfl ?_
      refine aw_aload_n 0 dX12_holesOf_18 rfl rfl ?_
      refine aw_iload 4 dX12_holesOf_19 rfl ?_
      refine aw_iload_n 1 dX12_holesOf_21 rfl rfl ?_
      refine aw_iload_n 2 dX12_holesOf_22 rfl rfl ?_
      refine aw_callVO_B (c12_isHoleOf σ x4 x1 x2) (io_12 (by decide)) ci_12 (by decide) mk_12_isHoleOf w_1953 w_106 w_1951 rfl rfl (Nat.le_of_ble_eq_true rfl) dX12_holesOf_23 (fun v_2 => ?_)
      refine aw_bif_eq 33 dX12_holesOf_26 (by decide) ?_ ?_
      · refine aw_iconst 0 dX12_holesOf_33 (by decide) ?_
        refine aw_iadd dX12_holesOf_34 ?_
        refine aw_bnd_int (fun v_3 => ?_)
        refine aw_istore_n (ls' := [(0, .ref (ad 12 0 0)), (1, .int x1), (2, .int x2), (3, .int v_3), (4, .int x4)]) [1, 2, 3, 0, 4] dX12_holesOf_35 rfl (by decide) rfl ?_
        refine aw_iinc (ls' := [(0, .ref (ad 12 0 0)), (1, .int x1), (2, .int x2), (3, .int v_3), (4, .int (x4 + 1))]) (x4 + 1) 4 [1, 2, 3, 4, 0] dX12_holesOf_36 rfl (by rfl) (by decide) rfl ?_
        refine aw_goto 5 dX12_holesOf_39 (by decide) ?_
        exact ih v_3 (x4 + 1)
      · refine aw_iconst 1 dX12_holesOf_29 (by decide) ?_
        refine aw_goto 34 dX12_holesOf_30 (by decide) ?_
        refine aw_iadd dX12_holesOf_34 ?_
        refine aw_bnd_int (fun v_4 => ?_)
        refine aw_istore_n (ls' := [(0, .ref (ad 12 0 0)), (1, .int x1), (2, .int x2), (3, .int v_4), (4, .int x4)]) [1, 2, 3, 0, 4] dX12_holesOf_35 rfl (by decide) rfl ?_
        refine aw_iinc (ls' := [(0, .ref (ad 12 0 0)), (1, .int x1), (2, .int x2), (3, .int v_4), (4, .int (x4 + 1))]) (x4 + 1) 4 [1, 2, 3, 4, 0] dX12_holesOf_36 rfl (by rfl) (by decide) rfl ?_
        refine aw_goto 5 dX12_holesOf_39 (by decide) ?_
        exact ih v_4 (x4 + 1)
def F12_holesOf (σ : Mem) (x1 : Int32) (x2 : Int32) : Option Int32 :=
  (F12_holesOf_L5 σ x1 x2 fuelK 0 0).bind fun r_5 => some r_5
set_option maxRecDepth 20000 in
theorem c12_holesOf {l : Launch} {D : va_G} {ad : Nat → Nat → Nat → Nat} {cid : Nat → Nat → Nat → ClassId} (σ : Mem) (x1 : Int32) (x2 : Int32) : AMF (XM l D ad cid) M12_holesOf 2 eI [.ref (ad 12 0 0), .int x1, .int x2] σ (oM σ (F12_holesOf σ x1 x2)) := by
  refine AM.ofW (by decide +kernel) (Nat.le_of_ble_eq_true rfl) (ls := [(0, .ref (ad 12 0 0)), (1, .int x1), (2, .int x2)]) rfl ?_
  refine aw_entryO ?_
  unfold F12_holesOf
  refine aw_iconst 0 dX12_holesOf_0 (by decide) ?_
  refine aw_istore_n (ls' := [(0, .ref (ad 12 0 0)), (1, .int x1), (2, .int x2), (3, .int 0)]) [1, 2, 3, 0] dX12_holesOf_1 rfl (by decide) rfl ?_
  refine aw_iconst 0 dX12_holesOf_2 (by decide) ?_
  refine aw_istore (ls' := [(0, .ref (ad 12 0 0)), (1, .int x1), (2, .int x2), (3, .int 0), (4, .int 0)]) [1, 2, 3, 4, 0] dX12_holesOf_3 (by decide) rfl ?_
  refine aw_assoc ?_
  refine c12_holesOf_L5 σ x1 x2 (fun r_5 => ?_) fuelK 0 0
  refine aw_iload_n 0 dX12_holesOf_42 rfl rfl ?_
  exact aw_ireturn rfl dX12_holesOf_43
def F12_shooter (σ : Mem) (x1 : Int32) (x2 : Int32) : Option (Int32 × Mem) :=
  bnd (sI σ 12 0 0 1 0) fun s_1 => bnd (sI s_1 12 0 0 0 0) fun s_2 => (F12_isShooterAt s_2 x1).bind fun v_3 => if v_3 = true then (if x2 = 0 then ((ald 3000 (gI s_2 12 0 5) (53 + x1)).bind fun v_5 => some (v_5, s_2)) else if x2 = 1 then ((ald 3000 (gI s_2 12 0 5) (59 + x1)).bind fun v_7 => some (v_7, s_2)) else if x2 = 2 then ((ald 3000 (gI s_2 12 0 5) (65 + x1)).bind fun v_9 => some (v_9, s_2)) else if x2 = 3 then ((ald 3000 (gI s_2 12 0 5) (71 + x1)).bind fun v_11 => some (v_11, s_2)) else if x2 = 4 then ((ald 3000 (gI s_2 12 0 5) (77 + x1)).bind fun v_13 => some (v_13, s_2)) else if x2 = 5 then ((F12_holesOf s_2 x1 (-1)).bind fun v_15 => some (v_15, s_2)) else (bd (F12_refuse s_2 5) fun v_16 s_17 => some (v_16, s_17))) else (bd (F12_refuse s_2 2) fun v_18 s_19 => some (v_18, s_19))
set_option maxRecDepth 20000 in
theorem c12_shooter {l : Launch} {D : va_G} {ad : Nat → Nat → Nat → Nat} {cid : Nat → Nat → Nat → ClassId} (σ : Mem) (x1 : Int32) (x2 : Int32) : AMF (XM l D ad cid) M12_shooter 3 eI [.ref (ad 12 0 0), .int x1, .int x2] σ (F12_shooter σ x1 x2) := by
  refine AM.ofW (by decide +kernel) (Nat.le_of_ble_eq_true rfl) (ls := [(0, .ref (ad 12 0 0)), (1, .int x1), (2, .int x2)]) rfl ?_
  refine aw_entry ?_
  unfold F12_shooter
  refine aw_aload_n 0 dX12_shooter_0 rfl rfl ?_
  refine aw_iconst 0 dX12_shooter_1 (by decide) ?_
  refine aw_putI (fs_12_1 (by decide)) ci_12 (by decide) rfl rfl w_1459 dX12_shooter_2 ?_
  refine aw_bndM (fun s_1 => ?_)
  refine aw_aload_n 0 dX12_shooter_5 rfl rfl ?_
  refine aw_iconst 0 dX12_shooter_6 (by decide) ?_
  refine aw_putI (fs_12_0 (by decide)) ci_12 (by decide) rfl rfl w_1458 dX12_shooter_7 ?_
  refine aw_bndM (fun s_2 => ?_)
  refine aw_aload_n 0 dX12_shooter_10 rfl rfl ?_
  refine aw_iload_n 1 dX12_shooter_11 rfl rfl ?_
  refine aw_callVO_B (c12_isShooterAt s_2 x1) (io_12 (by decide)) ci_12 (by decide) mk_12_isShooterAt w_1945 w_104 w_1943 rfl rfl (Nat.le_of_ble_eq_true rfl) dX12_shooter_12 (fun v_3 => ?_)
  refine aw_bif_ne 24 dX12_shooter_15 (by decide) ?_ ?_
  · refine aw_iload_n 2 dX12_shooter_24 rfl rfl ?_
    refine aw_case (c := 0) (fun h_4 => ?_) (fun h_4 => ?_)
    · refine aw_tabIn 64 h_4 dX12_shooter_25 (by decide) (by decide) rfl (by decide) ?_
      refine aw_aload_n 0 dX12_shooter_64 rfl rfl ?_
      refine aw_getf (fg_12_20 (by decide)) ci_12 (by decide) w_1478 dX12_shooter_65 ?_
      refine aw_bipush 53 dX12_shooter_68 (by decide) ?_
      refine aw_iload_n 1 dX12_shooter_70 rfl rfl ?_
      refine aw_iadd dX12_shooter_71 ?_
      refine aw_iaload (ar_12_5 (by decide)) dX12_shooter_72 (fun v_5 => ?_)
      exact aw_ireturn rfl dX12_shooter_73
    refine aw_case (c := 1) (fun h_6 => ?_) (fun h_6 => ?_)
    · refine aw_tabIn 74 h_6 dX12_shooter_25 (by decide) (by decide) rfl (by decide) ?_
      refine aw_aload_n 0 dX12_shooter_74 rfl rfl ?_
      refine aw_getf (fg_12_20 (by decide)) ci_12 (by decide) w_1478 dX12_shooter_75 ?_
      refine aw_bipush 59 dX12_shooter_78 (by decide) ?_
      refine aw_iload_n 1 dX12_shooter_80 rfl rfl ?_
      refine aw_iadd dX12_shooter_81 ?_
      refine aw_iaload (ar_12_5 (by decide)) dX12_shooter_82 (fun v_7 => ?_)
      exact aw_ireturn rfl dX12_shooter_83
    refine aw_case (c := 2) (fun h_8 => ?_) (fun h_8 => ?_)
    · refine aw_tabIn 84 h_8 dX12_shooter_25 (by decide) (by decide) rfl (by decide) ?_
      refine aw_aload_n 0 dX12_shooter_84 rfl rfl ?_
      refine aw_getf (fg_12_20 (by decide)) ci_12 (by decide) w_1478 dX12_shooter_85 ?_
      refine aw_bipush 65 dX12_shooter_88 (by decide) ?_
      refine aw_iload_n 1 dX12_shooter_90 rfl rfl ?_
      refine aw_iadd dX12_shooter_91 ?_
      refine aw_iaload (ar_12_5 (by decide)) dX12_shooter_92 (fun v_9 => ?_)
      exact aw_ireturn rfl dX12_shooter_93
    refine aw_case (c := 3) (fun h_10 => ?_) (fun h_10 => ?_)
    · refine aw_tabIn 94 h_10 dX12_shooter_25 (by decide) (by decide) rfl (by decide) ?_
      refine aw_aload_n 0 dX12_shooter_94 rfl rfl ?_
      refine aw_getf (fg_12_20 (by decide)) ci_12 (by decide) w_1478 dX12_shooter_95 ?_
      refine aw_bipush 71 dX12_shooter_98 (by decide) ?_
      refine aw_iload_n 1 dX12_shooter_100 rfl rfl ?_
      refine aw_iadd dX12_shooter_101 ?_
      refine aw_iaload (ar_12_5 (by decide)) dX12_shooter_102 (fun v_11 => ?_)
      exact aw_ireturn rfl dX12_shooter_103
    refine aw_case (c := 4) (fun h_12 => ?_) (fun h_12 => ?_)
    · refine aw_tabIn 104 h_12 dX12_shooter_25 (by decide) (by decide) rfl (by decide) ?_
      refine aw_aload_n 0 dX12_shooter_104 rfl rfl ?_
      refine aw_getf (fg_12_20 (by decide)) ci_12 (by decide) w_1478 dX12_shooter_105 ?_
      refine aw_bipush 77 dX12_shooter_108 (by decide) ?_
      refine aw_iload_n 1 dX12_shooter_110 rfl rfl ?_
      refine aw_iadd dX12_shooter_111 ?_
      refine aw_iaload (ar_12_5 (by decide)) dX12_shooter_112 (fun v_13 => ?_)
      exact aw_ireturn rfl dX12_shooter_113
    refine aw_case (c := 5) (fun h_14 => ?_) (fun h_14 => ?_)
    · refine aw_tabIn 114 h_14 dX12_shooter_25 (by decide) (by decide) rfl (by decide) ?_
      refine aw_aload_n 0 dX12_shooter_114 rfl rfl ?_
      refine aw_iload_n 1 dX12_shooter_115 rfl rfl ?_
      refine aw_iconst (-1) dX12_shooter_116 (by decide) ?_
      refine aw_callVO_I (c12_holesOf s_2 x1 (-1)) (io_12 (by decide)) ci_12 (by decide) mk_12_holesOf w_1949 w_105 w_1947 rfl rfl (Nat.le_of_ble_eq_true rfl) dX12_shooter_117 (fun v_15 => ?_)
      exact aw_ireturn rfl dX12_shooter_120
    refine aw_tabOut 121 dX12_shooter_25 (by have eh_4 : x2.toInt ≠ 0 := ne_toInt h_4; have eh_6 : x2.toInt ≠ 1 := ne_toInt h_6; have eh_8 : x2.toInt ≠ 2 := ne_toInt h_8; have eh_10 : x2.toInt ≠ 3 := ne_toInt h_10; have eh_12 : x2.toInt ≠ 4 := ne_toInt h_12; have eh_14 : x2.toInt ≠ 5 := ne_toInt h_14; omega) (by decide) ?_
    refine aw_aload_n 0 dX12_shooter_121 rfl rfl ?_
    refine aw_iconst 5 dX12_shooter_122 (by decide) ?_
    refine aw_callVW_I (c12_refuse s_2 5) (io_12 (by decide)) ci_12 (by decide) mk_12_refuse w_1921 w_101 w_1919 rfl rfl (Nat.le_of_ble_eq_true rfl) dX12_shooter_123 (fun v_16 s_17 => ?_)
    exact aw_ireturn rfl dX12_shooter_126
  · refine aw_aload_n 0 dX12_shooter_18 rfl rfl ?_
    refine aw_iconst 2 dX12_shooter_19 (by decide) ?_
    refine aw_callVW_I (c12_refuse s_2 2) (io_12 (by decide)) ci_12 (by decide) mk_12_refuse w_1921 w_101 w_1919 rfl rfl (Nat.le_of_ble_eq_true rfl) dX12_shooter_20 (fun v_18 s_19 => ?_)
    exact aw_ireturn rfl dX12_shooter_23
def F12_isPuffing (x0 : Int32) (x1 : Int32) : Bool :=
  (F12_isIn (Int32.toInt64 x0) 1 (Int32.toInt64 x1))
set_option maxRecDepth 20000 in
theorem c12_isPuffing {l : Launch} {D : va_G} {ad : Nat → Nat → Nat → Nat} {cid : Nat → Nat → Nat → ClassId} (σ : Mem) (x0 : Int32) (x1 : Int32) : AMF (XM l D ad cid) M12_isPuffing 1 eB [.int x0, .int x1] σ (some (F12_isPuffing x0 x1, σ)) := by
  refine AM.ofW (by decide +kernel) (Nat.le_of_ble_eq_true rfl) (ls := [(0, .int x0), (1, .int x1)]) rfl ?_
  refine aw_entryT ?_
  unfold F12_isPuffing
  refine aw_iload_n 0 dX12_isPuffing_0 rfl rfl ?_
  refine aw_i2l dX12_isPuffing_1 ?_
  refine aw_lconst 1 dX12_isPuffing_2 (by decide) ?_
  refine aw_iload_n 1 dX12_isPuffing_3 rfl rfl ?_
  refine aw_i2l dX12_isPuffing_4 ?_
  refine aw_callST_B (c12_isIn σ (Int32.toInt64 x0) 1 (Int32.toInt64 x1)) (by decide) mk_12_isIn w_1754 w_1753 rfl rfl (Nat.le_of_ble_eq_true rfl) dX12_isPuffing_5 ?_
  exact aw_zreturn (b := (F12_isIn (Int32.toInt64 x0) 1 (Int32.toInt64 x1))) rfl rfl dX12_isPuffing_8
def F12_isSpit (x0 : Int32) : Bool :=
  (F12_isIn (Int32.toInt64 x0) 0 20)
set_option maxRecDepth 20000 in
theorem c12_isSpit {l : Launch} {D : va_G} {ad : Nat → Nat → Nat → Nat} {cid : Nat → Nat → Nat → ClassId} (σ : Mem) (x0 : Int32) : AMF (XM l D ad cid) M12_isSpit 1 eB [.int x0] σ (some (F12_isSpit x0, σ)) := by
  refine AM.ofW (by decide +kernel) (Nat.le_of_ble_eq_true rfl) (ls := [(0, .int x0)]) rfl ?_
  refine aw_entryT ?_
  unfold F12_isSpit
  refine aw_iload_n 0 dX12_isSpit_0 rfl rfl ?_
  refine aw_i2l dX12_isSpit_1 ?_
  refine aw_lconst 0 dX12_isSpit_2 (by decide) ?_
  refine aw_ldc2 w_1968 dX12_isSpit_3 ?_
  refine aw_callST_B (c12_isIn σ (Int32.toInt64 x0) 0 20) (by decide) mk_12_isIn w_1754 w_1753 rfl rfl (Nat.le_of_ble_eq_true rfl) dX12_isSpit_6 ?_
  exact aw_zreturn (b := (F12_isIn (Int32.toInt64 x0) 0 20)) rfl rfl dX12_isSpit_9
def F12_paceOf (σ : Mem) (x1 : Int32) (x2 : Int32) (x3 : Int32) : Option Int32 :=
  (ald 3000 (gI σ 12 0 5) 0).bind fun v_1 => (ald 3000 (gI σ 12 0 5) (29 + x1)).bind fun v_2 => (F12_fitOf σ x1).bind fun v_3 => if ((v_2 + v_3) + x3) = 0 then none else bnd ((x2 * v_1) / ((v_2 + v_3) + x3)) fun v_4 => (ald 3000 (gI σ 12 0 5) (45 + x1)).bind fun v_5 => if v_5 = 1 then (some (v_4 / 2)) else (some v_4)
set_option maxRecDepth 20000 in
theorem c12_paceOf {l : Launch} {D : va_G} {ad : Nat → Nat → Nat → Nat} {cid : Nat → Nat → Nat → ClassId} (σ : Mem) (x1 : Int32) (x2 : Int32) (x3 : Int32) : AMF (XM l D ad cid) M12_paceOf 1 eI [.ref (ad 12 0 0), .int x1, .int x2, .int x3] σ (oM σ (F12_paceOf σ x1 x2 x3)) := by
  refine AM.ofW (by decide +kernel) (Nat.le_of_ble_eq_true rfl) (ls := [(0, .ref (ad 12 0 0)), (1, .int x1), (2, .int x2), (3, .int x3)]) rfl ?_
  refine aw_entryO ?_
  unfold F12_paceOf
  refine aw_iload_n 2 dX12_paceOf_0 rfl rfl ?_
  refine aw_aload_n 0 dX12_paceOf_1 rfl rfl ?_
  refine aw_getf (fg_12_20 (by decide)) ci_12 (by decide) w_1478 dX12_paceOf_2 ?_
  refine aw_iconst 0 dX12_paceOf_5 (by decide) ?_
  refine aw_iaload (ar_12_5 (by decide)) dX12_paceOf_6 (fun v_1 => ?_)
  refine aw_imul dX12_paceOf_7 ?_
  refine aw_aload_n 0 dX12_paceOf_8 rfl rfl ?_
  refine aw_getf (fg_12_20 (by decide)) ci_12 (by decide) w_1478 dX12_paceOf_9 ?_
  refine aw_bipush 29 dX12_paceOf_12 (by decide) ?_
  refine aw_iload_n 1 dX12_paceOf_14 rfl rfl ?_
  refine aw_iadd dX12_paceOf_15 ?_
  refine aw_iaload (ar_12_5 (by decide)) dX12_paceOf_16 (fun v_2 => ?_)
  refine aw_aload_n 0 dX12_paceOf_17 rfl rfl ?_
  refine aw_iload_n 1 dX12_paceOf_18 rfl rfl ?_
  refine aw_callVO_I (c12_fitOf σ x1) (io_12 (by decide)) ci_12 (by decide) mk_12_fitOf w_1937 w_103 w_1935 rfl rfl (Nat.le_of_ble_eq_true rfl) dX12_paceOf_19 (fun v_3 => ?_)
  refine aw_iadd dX12_paceOf_22 ?_
  refine aw_iload_n 3 dX12_paceOf_23 rfl rfl ?_
  refine aw_iadd dX12_paceOf_24 ?_
  refine aw_idiv dX12_paceOf_25 ?_
  refine aw_bnd_int (fun v_4 => ?_)
  refine aw_istore (ls' := [(0, .ref (ad 12 0 0)), (1, .int x1), (4, .int v_4)]) [1, 2, 0] dX12_paceOf_26 (by decide) rfl ?_
  refine aw_aload_n 0 dX12_paceOf_28 rfl rfl ?_
  refine aw_getf (fg_12_20 (by decide)) ci_12 (by decide) w_1478 dX12_paceOf_29 ?_
  refine aw_bipush 45 dX12_paceOf_32 (by decide) ?_
  refine aw_iload_n 1 dX12_paceOf_34 rfl rfl ?_
  refine aw_iadd dX12_paceOf_35 ?_
  refine aw_iaload (ar_12_5 (by decide)) dX12_paceOf_36 (fun v_5 => ?_)
  refine aw_iconst 1 dX12_paceOf_37 (by decide) ?_
  refine aw_icmp_ne 48 dX12_paceOf_38 (by decide) ?_ ?_
  · refine aw_iload 2 dX12_paceOf_48 rfl ?_
    exact aw_ireturn rfl dX12_paceOf_50
  · refine aw_iload 2 dX12_paceOf_41 rfl ?_
    refine aw_iconst 2 dX12_paceOf_43 (by decide) ?_
    refine aw_idiv_c dX12_paceOf_44 (by decide) ?_
    refine aw_goto 50 dX12_paceOf_45 (by decide) ?_
    exact aw_ireturn rfl dX12_paceOf_50
def F12_fateOf_p30 (σ : Mem) (x1 : Int32) (x2 : Int32) (x3 : Int32) (q0 : Int32) (q1 : Int32) : Option Int32 :=
  if q0 < q1 then ((F12_paceOf σ x1 x2 x3).bind fun v_3 => if 24 ≤ v_3 then (some 0) else (some 3)) else (some 2)
set_option maxRecDepth 20000 in
theorem c12_fateOf_p30 {l : Launch} {D : va_G} {ad : Nat → Nat → Nat → Nat} {cid : Nat → Nat → Nat → ClassId} (σ : Mem) (x1 : Int32) (x2 : Int32) (x3 : Int32) (q0 : Int32) (q1 : Int32) : AW (XM l D ad cid) M12_fateOf 2 eI [(0, .ref (ad 12 0 0)), (1, .int x1), (2, .int x2), (3, .int x3)] 30 [.int q1, .int q0] σ ((F12_fateOf_p30 σ x1 x2 x3 q0 q1).bind (fun v => some (v, σ))) := by
  unfold F12_fateOf_p30
  refine aw_icmp_lt 35 dX12_fateOf_30 (by decide) ?_ ?_
  · refine aw_aload_n 0 dX12_fateOf_35 rfl rfl ?_
    refine aw_iload_n 1 dX12_fateOf_36 rfl rfl ?_
    refine aw_iload_n 2 dX12_fateOf_37 rfl rfl ?_
    refine aw_iload_n 3 dX12_fateOf_38 rfl rfl ?_
    refine aw_callVO_I (c12_paceOf σ x1 x2 x3) (io_12 (by decide)) ci_12 (by decide) mk_12_paceOf w_1975 w_108 w_1973 rfl rfl (Nat.le_of_ble_eq_true rfl) dX12_fateOf_39 (fun v_3 => ?_)
    refine aw_bipush 24 dX12_fateOf_42 (by decide) ?_
    refine aw_icmp_ge 51 dX12_fateOf_44 (by decide) ?_ ?_
    · refine aw_iconst 0 dX12_fateOf_51 (by decide) ?_
      exact aw_ireturn rfl dX12_fateOf_52
    · refine aw_iconst 3 dX12_fateOf_47 (by decide) ?_
      refine aw_goto 52 dX12_fateOf_48 (by decide) ?_
      exact aw_ireturn rfl dX12_fateOf_52
  · refine aw_iconst 2 dX12_fateOf_33 (by decide) ?_
    exact aw_ireturn rfl dX12_fateOf_34
def F12_fateOf (σ : Mem) (x1 : Int32) (x2 : Int32) (x3 : Int32) : Option Int32 :=
  (F12_fitOf σ x1).bind fun v_1 => if 0 ≤ v_1 then ((ald 3000 (gI σ 12 0 5) (45 + x1)).bind fun v_2 => if v_2 = 1 then (F12_fateOf_p30 σ x1 x2 x3 x3 3) else (F12_fateOf_p30 σ x1 x2 x3 x3 8)) else (some 1)
set_option maxRecDepth 20000 in
theorem c12_fateOf {l : Launch} {D : va_G} {ad : Nat → Nat → Nat → Nat} {cid : Nat → Nat → Nat → ClassId} (σ : Mem) (x1 : Int32) (x2 : Int32) (x3 : Int32) : AMF (XM l D ad cid) M12_fateOf 2 eI [.ref (ad 12 0 0), .int x1, .int x2, .int x3] σ (oM σ (F12_fateOf σ x1 x2 x3)) := by
  refine AM.ofW (by decide +kernel) (Nat.le_of_ble_eq_true rfl) (ls := [(0, .ref (ad 12 0 0)), (1, .int x1), (2, .int x2), (3, .int x3)]) rfl ?_
  refine aw_entryO ?_
  unfold F12_fateOf
  refine aw_aload_n 0 dX12_fateOf_0 rfl rfl ?_
  refine aw_iload_n 1 dX12_fateOf_1 rfl rfl ?_
  refine aw_callVO_I (c12_fitOf σ x1) (io_12 (by decide)) ci_12 (by decide) mk_12_fitOf w_1937 w_103 w_1935 rfl rfl (Nat.le_of_ble_eq_true rfl) dX12_fateOf_2 (fun v_1 => ?_)
  refine aw_if_ge 10 dX12_fateOf_5 (by decide) ?_ ?_
  · refine aw_iload_n 3 dX12_fateOf_10 rfl rfl ?_
    refine aw_aload_n 0 dX12_fateOf_11 rfl rfl ?_
    refine aw_getf (fg_12_20 (by decide)) ci_12 (by decide) w_1478 dX12_fateOf_12 ?_
    refine aw_bipush 45 dX12_fateOf_15 (by decide) ?_
    refine aw_iload_n 1 dX12_fateOf_17 rfl rfl ?_
    refine aw_iadd dX12_fateOf_18 ?_
    refine aw_iaload (ar_12_5 (by decide)) dX12_fateOf_19 (fun v_2 => ?_)
    refine aw_iconst 1 dX12_fateOf_20 (by decide) ?_
    refine aw_icmp_ne 28 dX12_fateOf_21 (by decide) ?_ ?_
    · refine aw_bipush 8 dX12_fateOf_28 (by decide) ?_
      exact c12_fateOf_p30 σ x1 x2 x3 x3 8
    · refine aw_iconst 3 dX12_fateOf_24 (by decide) ?_
      refine aw_goto 30 dX12_fateOf_25 (by decide) ?_
      exact c12_fateOf_p30 σ x1 x2 x3 x3 3
  · refine aw_iconst 1 dX12_fateOf_8 (by decide) ?_
    exact aw_ireturn rfl dX12_fateOf_9
def F12_pace (σ : Mem) (x1 : Int32) (x2 : Int32) (x3 : Int32) : Option (Int32 × Mem) :=
  bnd (sI σ 12 0 0 1 0) fun s_1 => bnd (sI s_1 12 0 0 0 0) fun s_2 => (F12_isPeaAt s_2 x1).bind fun v_3 => if v_3 = true then (if (F12_isPuffing x2 40) = true then (if (F12_isSpit x3) = true then ((F12_fateOf s_2 x1 x2 x3).bind fun v_6 => if v_6 = 0 then ((F12_paceOf s_2 x1 x2 x3).bind fun v_9 => some (v_9, s_2)) else (bd (F12_refuse s_2 9) fun v_7 s_8 => some (v_7, s_8))) else (bd (F12_refuse s_2 5) fun v_10 s_11 => some (v_10, s_11))) else (bd (F12_refuse s_2 5) fun v_4 s_5 => some (v_4, s_5))) else (bd (F12_refuse s_2 2) fun v_12 s_13 => some (v_12, s_13))
set_option maxRecDepth 20000 in
theorem c12_pace {l : Launch} {D : va_G} {ad : Nat → Nat → Nat → Nat} {cid : Nat → Nat → Nat → ClassId} (σ : Mem) (x1 : Int32) (x2 : Int32) (x3 : Int32) : AMF (XM l D ad cid) M12_pace 3 eI [.ref (ad 12 0 0), .int x1, .int x2, .int x3] σ (F12_pace σ x1 x2 x3) := by
  refine AM.ofW (by decide +kernel) (Nat.le_of_ble_eq_true rfl) (ls := [(0, .ref (ad 12 0 0)), (1, .int x1), (2, .int x2), (3, .int x3)]) rfl ?_
  refine aw_entry ?_
  unfold F12_pace
  refine aw_aload_n 0 dX12_pace_0 rfl rfl ?_
  refine aw_iconst 0 dX12_pace_1 (by decide) ?_
  refine aw_putI (fs_12_1 (by decide)) ci_12 (by decide) rfl rfl w_1459 dX12_pace_2 ?_
  refine aw_bndM (fun s_1 => ?_)
  refine aw_aload_n 0 dX12_pace_5 rfl rfl ?_
  refine aw_iconst 0 dX12_pace_6 (by decide) ?_
  refine aw_putI (fs_12_0 (by decide)) ci_12 (by decide) rfl rfl w_1458 dX12_pace_7 ?_
  refine aw_bndM (fun s_2 => ?_)
  refine aw_aload_n 0 dX12_pace_10 rfl rfl ?_
  refine aw_iload_n 1 dX12_pace_11 rfl rfl ?_
  refine aw_callVO_B (c12_isPeaAt s_2 x1) (io_12 (by decide)) ci_12 (by decide) mk_12_isPeaAt w_1933 w_102 w_1931 rfl rfl (Nat.le_of_ble_eq_true rfl) dX12_pace_12 (fun v_3 => ?_)
  refine aw_bif_ne 24 dX12_pace_15 (by decide) ?_ ?_
  · refine aw_iload_n 2 dX12_pace_24 rfl rfl ?_
    refine aw_bipush 40 dX12_pace_25 (by decide) ?_
    refine aw_callST_B (c12_isPuffing s_2 x2 40) (by decide) mk_12_isPuffing w_1963 w_1962 rfl rfl (Nat.le_of_ble_eq_true rfl) dX12_pace_27 ?_
    refine aw_bif_eq 40 dX12_pace_30 (by decide) ?_ ?_
    · refine aw_aload_n 0 dX12_pace_40 rfl rfl ?_
      refine aw_iconst 5 dX12_pace_41 (by decide) ?_
      refine aw_callVW_I (c12_refuse s_2 5) (io_12 (by decide)) ci_12 (by decide) mk_12_refuse w_1921 w_101 w_1919 rfl rfl (Nat.le_of_ble_eq_true rfl) dX12_pace_42 (fun v_4 s_5 => ?_)
      exact aw_ireturn rfl dX12_pace_45
    · refine aw_iload_n 3 dX12_pace_33 rfl rfl ?_
      refine aw_callST_B (c12_isSpit s_2 x3) (by decide) mk_12_isSpit w_1966 w_1965 rfl rfl (Nat.le_of_ble_eq_true rfl) dX12_pace_34 ?_
      refine aw_bif_ne 46 dX12_pace_37 (by decide) ?_ ?_
      · refine aw_aload_n 0 dX12_pace_46 rfl rfl ?_
        refine aw_iload_n 1 dX12_pace_47 rfl rfl ?_
        refine aw_iload_n 2 dX12_pace_48 rfl rfl ?_
        refine aw_iload_n 3 dX12_pace_49 rfl rfl ?_
        refine aw_callVO_I (c12_fateOf s_2 x1 x2 x3) (io_12 (by decide)) ci_12 (by decide) mk_12_fateOf w_1971 w_107 w_1969 rfl rfl (Nat.le_of_ble_eq_true rfl) dX12_pace_50 (fun v_6 => ?_)
        refine aw_if_ne 66 dX12_pace_53 (by decide) ?_ ?_
        · refine aw_aload_n 0 dX12_pace_66 rfl rfl ?_
          refine aw_bipush 9 dX12_pace_67 (by decide) ?_
          refine aw_callVW_I (c12_refuse s_2 9) (io_12 (by decide)) ci_12 (by decide) mk_12_refuse w_1921 w_101 w_1919 rfl rfl (Nat.le_of_ble_eq_true rfl) dX12_pace_69 (fun v_7 s_8 => ?_)
          exact aw_ireturn rfl dX12_pace_72
        · refine aw_aload_n 0 dX12_pace_56 rfl rfl ?_
          refine aw_iload_n 1 dX12_pace_57 rfl rfl ?_
          refine aw_iload_n 2 dX12_pace_58 rfl rfl ?_
          refine aw_iload_n 3 dX12_pace_59 rfl rfl ?_
          refine aw_callVO_I (c12_paceOf s_2 x1 x2 x3) (io_12 (by decide)) ci_12 (by decide) mk_12_paceOf w_1975 w_108 w_1973 rfl rfl (Nat.le_of_ble_eq_true rfl) dX12_pace_60 (fun v_9 => ?_)
          refine aw_goto 72 dX12_pace_63 (by decide) ?_
          exact aw_ireturn rfl dX12_pace_72
      · refine aw_aload_n 0 dX12_pace_40 rfl rfl ?_
        refine aw_iconst 5 dX12_pace_41 (by decide) ?_
        refine aw_callVW_I (c12_refuse s_2 5) (io_12 (by decide)) ci_12 (by decide) mk_12_refuse w_1921 w_101 w_1919 rfl rfl (Nat.le_of_ble_eq_true rfl) dX12_pace_42 (fun v_10 s_11 => ?_)
        exact aw_ireturn rfl dX12_pace_45
  · refine aw_aload_n 0 dX12_pace_18 rfl rfl ?_
    refine aw_iconst 2 dX12_pace_19 (by decide) ?_
    refine aw_callVW_I (c12_refuse s_2 2) (io_12 (by decide)) ci_12 (by decide) mk_12_refuse w_1921 w_101 w_1919 rfl rfl (Nat.le_of_ble_eq_true rfl) dX12_pace_20 (fun v_12 s_13 => ?_)
    exact aw_ireturn rfl dX12_pace_23
def F12_flies_p102 (σ : Mem) (x1 : Int32) (q1 : Int32) : Option (Bool × Mem) :=
  bnd (sI σ 12 0 0 30 q1) fun s_9 => (ald 3000 (gI s_9 12 0 5) (37 + x1)).bind fun v_10 => bnd (sI s_9 12 0 0 31 ((v_10 * (gI s_9 12 0 0 28)) / 16)) fun s_11 => (F12_fitOf s_11 x1).bind fun v_12 => if v_12 ≤ 2 then (bnd (sI s_11 12 0 0 31 (gI s_11 12 0 0 31)) fun s_13 => some (true, s_13)) else (bnd (sI s_11 12 0 0 31 (2 * (gI s_11 12 0 0 31))) fun s_14 => some (true, s_14))
set_option maxRecDepth 20000 in
theorem c12_flies_p102 {l : Launch} {D : va_G} {ad : Nat → Nat → Nat → Nat} {cid : Nat → Nat → Nat → ClassId} (σ : Mem) (x1 : Int32) (q1 : Int32) : AW (XM l D ad cid) M12_flies 3 eB [(0, .ref (ad 12 0 0)), (1, .int x1)] 102 [.int q1, .ref (ad 12 0 0)] σ ((F12_flies_p102 σ x1 q1).bind some) := by
  unfold F12_flies_p102
  refine aw_putI (fs_12_30 (by decide)) ci_12 (by decide) rfl rfl w_1488 dX12_flies_102 ?_
  refine aw_bndM (fun s_9 => ?_)
  refine aw_aload_n 0 dX12_flies_105 rfl rfl ?_
  refine aw_aload_n 0 dX12_flies_106 rfl rfl ?_
  refine aw_getf (fg_12_20 (by decide)) ci_12 (by decide) w_1478 dX12_flies_107 ?_
  refine aw_bipush 37 dX12_flies_110 (by decide) ?_
  refine aw_iload_n 1 dX12_flies_112 rfl rfl ?_
  refine aw_iadd dX12_flies_113 ?_
  refine aw_iaload (ar_12_5 (by decide)) dX12_flies_114 (fun v_10 => ?_)
  refine aw_aload_n 0 dX12_flies_115 rfl rfl ?_
  refine aw_getf (fg_12_28 (by decide)) ci_12 (by decide) w_1486 dX12_flies_116 ?_
  refine aw_imul dX12_flies_119 ?_
  refine aw_bipush 16 dX12_flies_120 (by decide) ?_
  refine aw_idiv_c dX12_flies_122 (by decide) ?_
  refine aw_putI (fs_12_31 (by decide)) ci_12 (by decide) rfl rfl w_1489 dX12_flies_123 ?_
  refine aw_bndM (fun s_11 => ?_)
  refine aw_aload_n 0 dX12_flies_126 rfl rfl ?_
  refine aw_aload_n 0 dX12_flies_127 rfl rfl ?_
  refine aw_iload_n 1 dX12_flies_128 rfl rfl ?_
  refine aw_callVO_I (c12_fitOf s_11 x1) (io_12 (by decide)) ci_12 (by decide) mk_12_fitOf w_1937 w_103 w_1935 rfl rfl (Nat.le_of_ble_eq_true rfl) dX12_flies_129 (fun v_12 => ?_)
  refine aw_iconst 2 dX12_flies_132 (by decide) ?_
  refine aw_icmp_le 145 dX12_flies_133 (by decide) ?_ ?_
  · refine aw_aload_n 0 dX12_flies_145 rfl rfl ?_
    refine aw_getf (fg_12_31 (by decide)) ci_12 (by decide) w_1489 dX12_flies_146 ?_
    refine aw_putI (fs_12_31 (by decide)) ci_12 (by decide) rfl rfl w_1489 dX12_flies_149 ?_
    refine aw_bndM (fun s_13 => ?_)
    refine aw_iconst 1 dX12_flies_152 (by decide) ?_
    exact aw_zreturn (b := true) rfl rfl dX12_flies_153
  · refine aw_iconst 2 dX12_flies_136 (by decide) ?_
    refine aw_aload_n 0 dX12_flies_137 rfl rfl ?_
    refine aw_getf (fg_12_31 (by decide)) ci_12 (by decide) w_1489 dX12_flies_138 ?_
    refine aw_imul dX12_flies_141 ?_
    refine aw_goto 149 dX12_flies_142 (by decide) ?_
    refine aw_putI (fs_12_31 (by decide)) ci_12 (by decide) rfl rfl w_1489 dX12_flies_149 ?_
    refine aw_bndM (fun s_14 => ?_)
    refine aw_iconst 1 dX12_flies_152 (by decide) ?_
    exact aw_zreturn (b := true) rfl rfl dX12_flies_153
def F12_flies (σ : Mem) (x1 : Int32) (x2 : Int32) (x3 : Int32) : Option (Bool × Mem) :=
  (F12_fateOf σ x1 x2 x3).bind fun v_1 => if v_1 = 0 then ((F12_paceOf σ x1 x2 x3).bind fun v_2 => (ald 3000 (gI σ 12 0 5) 2).bind fun v_3 => if v_2 = 0 then none else bnd (sI σ 12 0 0 28 ((((240 * v_3) + v_2) - 1) / v_2)) fun s_4 => bnd (sI s_4 12 0 0 29 (((gI s_4 12 0 0 28) * (gI s_4 12 0 0 28)) / 64)) fun s_5 => (ald 3000 (gI s_5 12 0 5) 3).bind fun v_6 => bnd (sI s_5 12 0 0 30 (((iAbs v_6) * (gI s_5 12 0 0 28)) / 8)) fun s_7 => (ald 3000 (gI s_7 12 0 5) 3).bind fun v_8 => if 0 ≤ v_8 then (F12_flies_p102 s_7 x1 (gI s_7 12 0 0 30)) else (F12_flies_p102 s_7 x1 (-(gI s_7 12 0 0 30)))) else (some (false, σ))
set_option maxRecDepth 20000 in
theorem c12_flies {l : Launch} {D : va_G} {ad : Nat → Nat → Nat → Nat} {cid : Nat → Nat → Nat → ClassId} (σ : Mem) (x1 : Int32) (x2 : Int32) (x3 : Int32) : AMF (XM l D ad cid) M12_flies 3 eB [.ref (ad 12 0 0), .int x1, .int x2, .int x3] σ (F12_flies σ x1 x2 x3) := by
  refine AM.ofW (by decide +kernel) (Nat.le_of_ble_eq_true rfl) (ls := [(0, .ref (ad 12 0 0)), (1, .int x1), (2, .int x2), (3, .int x3)]) rfl ?_
  refine aw_entry ?_
  unfold F12_flies
  refine aw_aload_n 0 dX12_flies_0 rfl rfl ?_
  refine aw_iload_n 1 dX12_flies_1 rfl rfl ?_
  refine aw_iload_n 2 dX12_flies_2 rfl rfl ?_
  refine aw_iload_n 3 dX12_flies_3 rfl rfl ?_
  refine aw_callVO_I (c12_fateOf σ x1 x2 x3) (io_12 (by decide)) ci_12 (by decide) mk_12_fateOf w_1971 w_107 w_1969 rfl rfl (Nat.le_of_ble_eq_true rfl) dX12_flies_4 (fun v_1 => ?_)
  refine aw_if_eq 12 dX12_flies_7 (by decide) ?_ ?_
  · refine aw_aload_n 0 dX12_flies_12 rfl rfl ?_
    refine aw_iload_n 1 dX12_flies_13 rfl rfl ?_
    refine aw_iload_n 2 dX12_flies_14 rfl rfl ?_
    refine aw_iload_n 3 dX12_flies_15 rfl rfl ?_
    refine aw_callVO_I (c12_paceOf σ x1 x2 x3) (io_12 (by decide)) ci_12 (by decide) mk_12_paceOf w_1975 w_108 w_1973 rfl rfl (Nat.le_of_ble_eq_true rfl) dX12_flies_16 (fun v_2 => ?_)
    refine aw_istore (ls' := [(0, .ref (ad 12 0 0)), (1, .int x1), (4, .int v_2)]) [1, 2, 0] dX12_flies_19 (by decide) rfl ?_
    refine aw_aload_n 0 dX12_flies_21 rfl rfl ?_
    refine aw_sipush 240 dX12_flies_22 (by decide) ?_
    refine aw_aload_n 0 dX12_flies_25 rfl rfl ?_
    refine aw_getf (fg_12_20 (by decide)) ci_12 (by decide) w_1478 dX12_flies_26 ?_
    refine aw_iconst 2 dX12_flies_29 (by decide) ?_
    refine aw_iaload (ar_12_5 (by decide)) dX12_flies_30 (fun v_3 => ?_)
    refine aw_imul dX12_flies_31 ?_
    refine aw_iload 2 dX12_flies_32 rfl ?_
    refine aw_iadd dX12_flies_34 ?_
    refine aw_iconst 1 dX12_flies_35 (by decide) ?_
    refine aw_isub dX12_flies_36 ?_
    refine aw_iload 2 dX12_flies_37 rfl ?_
    refine aw_idiv dX12_flies_39 ?_
    refine aw_putI (fs_12_28 (by decide)) ci_12 (by decide) rfl rfl w_1486 dX12_flies_40 ?_
    refine aw_bndM (fun s_4 => ?_)
    refine aw_aload_n 0 dX12_flies_43 rfl rfl ?_
    refine aw_aload_n 0 dX12_flies_44 rfl rfl ?_
    refine aw_getf (fg_12_28 (by decide)) ci_12 (by decide) w_1486 dX12_flies_45 ?_
    refine aw_aload_n 0 dX12_flies_48 rfl rfl ?_
    refine aw_getf (fg_12_28 (by decide)) ci_12 (by decide) w_1486 dX12_flies_49 ?_
    refine aw_imul dX12_flies_52 ?_
    refine aw_bipush 64 dX12_flies_53 (by decide) ?_
    refine aw_idiv_c dX12_flies_55 (by decide) ?_
    refine aw_putI (fs_12_29 (by decide)) ci_12 (by decide) rfl rfl w_1487 dX12_flies_56 ?_
    refine aw_bndM (fun s_5 => ?_)
    refine aw_aload_n 0 dX12_flies_59 rfl rfl ?_
    refine aw_aload_n 0 dX12_flies_60 rfl rfl ?_
    refine aw_getf (fg_12_20 (by decide)) ci_12 (by decide) w_1478 dX12_flies_61 ?_
    refine aw_iconst 3 dX12_flies_64 (by decide) ?_
    refine aw_iaload (ar_12_5 (by decide)) dX12_flies_65 (fun v_6 => ?_)
    refine aw_abs w_1986 w_1096 w_159 w_1097 (Nat.le_of_ble_eq_true rfl) dX12_flies_66 ?_
    refine aw_aload_n 0 dX12_flies_69 rfl rfl ?_
    refine aw_getf (fg_12_28 (by decide)) ci_12 (by decide) w_1486 dX12_flies_70 ?_
    refine aw_imul dX12_flies_73 ?_
    refine aw_bipush 8 dX12_flies_74 (by decide) ?_
    refine aw_idiv_c dX12_flies_76 (by decide) ?_
    refine aw_putI (fs_12_30 (by decide)) ci_12 (by decide) rfl rfl w_1488 dX12_flies_77 ?_
    refine aw_bndM (fun s_7 => ?_)
    refine aw_aload_n 0 dX12_flies_80 rfl rfl ?_
    refine aw_aload_n 0 dX12_flies_81 rfl rfl ?_
    refine aw_getf (fg_12_20 (by decide)) ci_12 (by decide) w_1478 dX12_flies_82 ?_
    refine aw_iconst 3 dX12_flies_85 (by decide) ?_
    refine aw_iaload (ar_12_5 (by decide)) dX12_flies_86 (fun v_8 => ?_)
    refine aw_if_ge 98 dX12_flies_87 (by decide) ?_ ?_
    · refine aw_aload_n 0 dX12_flies_98 rfl rfl ?_
      refine aw_getf (fg_12_30 (by decide)) ci_12 (by decide) w_1488 dX12_flies_99 ?_
      refine aw_ls (ls' := [(0, .ref (ad 12 0 0)), (1, .int x1)]) [0, 1] rfl ?_
      exact c12_flies_p102 s_7 x1 (gI s_7 12 0 0 30)
    · refine aw_aload_n 0 dX12_flies_90 rfl rfl ?_
      refine aw_getf (fg_12_30 (by decide)) ci_12 (by decide) w_1488 dX12_flies_91 ?_
      refine aw_ineg dX12_flies_94 ?_
      refine aw_goto 102 dX12_flies_95 (by decide) ?_
      refine aw_ls (ls' := [(0, .ref (ad 12 0 0)), (1, .int x1)]) [0, 1] rfl ?_
      exact c12_flies_p102 s_7 x1 (-(gI s_7 12 0 0 30))
  · refine aw_iconst 0 dX12_flies_10 (by decide) ?_
    exact aw_zreturn (b := false) rfl rfl dX12_flies_11
def F12_flight (σ : Mem) (x1 : Int32) (x2 : Int32) (x3 : Int32) (x4 : Int32) : Option (Int32 × Mem) :=
  bnd (sI σ 12 0 0 1 0) fun s_1 => bnd (sI s_1 12 0 0 0 0) fun s_2 => (F12_isPeaAt s_2 x1).bind fun v_3 => if v_3 = true then (if (F12_isPuffing x2 40) = true then (if (F12_isSpit x3) = true then (if (F12_isIn (Int32.toInt64 x4) 0 3) = true then (bd (F12_flies s_2 x1 x2 x3) fun v_8 s_9 => if v_8 = true then (if x4 = 0 then (some ((gI s_9 12 0 0 28), s_9)) else (if x4 = 1 then (some ((gI s_9 12 0 0 29), s_9)) else (if x4 = 2 then (some ((gI s_9 12 0 0 30), s_9)) else (some ((gI s_9 12 0 0 31), s_9))))) else (bd (F12_refuse s_9 9) fun v_10 s_11 => some (v_10, s_11))) else (bd (F12_refuse s_2 5) fun v_12 s_13 => some (v_12, s_13))) else (bd (F12_refuse s_2 5) fun v_6 s_7 => some (v_6, s_7))) else (bd (F12_refuse s_2 5) fun v_4 s_5 => some (v_4, s_5))) else (bd (F12_refuse s_2 2) fun v_14 s_15 => some (v_14, s_15))
set_option maxRecDepth 20000 in
theorem c12_flight {l : Launch} {D : va_G} {ad : Nat → Nat → Nat → Nat} {cid : Nat → Nat → Nat → ClassId} (σ : Mem) (x1 : Int32) (x2 : Int32) (x3 : Int32) (x4 : Int32) : AMF (XM l D ad cid) M12_flight 4 eI [.ref (ad 12 0 0), .int x1, .int x2, .int x3, .int x4] σ (F12_flight σ x1 x2 x3 x4) := by
  refine AM.ofW (by decide +kernel) (Nat.le_of_ble_eq_true rfl) (ls := [(0, .ref (ad 12 0 0)), (1, .int x1), (2, .int x2), (3, .int x3), (4, .int x4)]) rfl ?_
  refine aw_entry ?_
  unfold F12_flight
  refine aw_aload_n 0 dX12_flight_0 rfl rfl ?_
  refine aw_iconst 0 dX12_flight_1 (by decide) ?_
  refine aw_putI (fs_12_1 (by decide)) ci_12 (by decide) rfl rfl w_1459 dX12_flight_2 ?_
  refine aw_bndM (fun s_1 => ?_)
  refine aw_aload_n 0 dX12_flight_5 rfl rfl ?_
  refine aw_iconst 0 dX12_flight_6 (by decide) ?_
  refine aw_putI (fs_12_0 (by decide)) ci_12 (by decide) rfl rfl w_1458 dX12_flight_7 ?_
  refine aw_bndM (fun s_2 => ?_)
  refine aw_aload_n 0 dX12_flight_10 rfl rfl ?_
  refine aw_iload_n 1 dX12_flight_11 rfl rfl ?_
  refine aw_callVO_B (c12_isPeaAt s_2 x1) (io_12 (by decide)) ci_12 (by decide) mk_12_isPeaAt w_1933 w_102 w_1931 rfl rfl (Nat.le_of_ble_eq_true rfl) dX12_flight_12 (fun v_3 => ?_)
  refine aw_bif_ne 24 dX12_flight_15 (by decide) ?_ ?_
  · refine aw_iload_n 2 dX12_flight_24 rfl rfl ?_
    refine aw_bipush 40 dX12_flight_25 (by decide) ?_
    refine aw_callST_B (c12_isPuffing s_2 x2 40) (by decide) mk_12_isPuffing w_1963 w_1962 rfl rfl (Nat.le_of_ble_eq_true rfl) dX12_flight_27 ?_
    refine aw_bif_eq 53 dX12_flight_30 (by decide) ?_ ?_
    · refine aw_aload_n 0 dX12_flight_53 rfl rfl ?_
      refine aw_iconst 5 dX12_flight_54 (by decide) ?_
      refine aw_callVW_I (c12_refuse s_2 5) (io_12 (by decide)) ci_12 (by decide) mk_12_refuse w_1921 w_101 w_1919 rfl rfl (Nat.le_of_ble_eq_true rfl) dX12_flight_55 (fun v_4 s_5 => ?_)
      exact aw_ireturn rfl dX12_flight_58
    · refine aw_iload_n 3 dX12_flight_33 rfl rfl ?_
      refine aw_callST_B (c12_isSpit s_2 x3) (by decide) mk_12_isSpit w_1966 w_1965 rfl rfl (Nat.le_of_ble_eq_true rfl) dX12_flight_34 ?_
      refine aw_bif_eq 53 dX12_flight_37 (by decide) ?_ ?_
      · refine aw_aload_n 0 dX12_flight_53 rfl rfl ?_
        refine aw_iconst 5 dX12_flight_54 (by decide) ?_
        refine aw_callVW_I (c12_refuse s_2 5) (io_12 (by decide)) ci_12 (by decide) mk_12_refuse w_1921 w_101 w_1919 rfl rfl (Nat.le_of_ble_eq_true rfl) dX12_flight_55 (fun v_6 s_7 => ?_)
        exact aw_ireturn rfl dX12_flight_58
      · refine aw_iload 4 dX12_flight_40 rfl ?_
        refine aw_i2l dX12_flight_42 ?_
        refine aw_lconst 0 dX12_flight_43 (by decide) ?_
        refine aw_ldc2 w_1981 dX12_flight_44 ?_
        refine aw_callST_B (c12_isIn s_2 (Int32.toInt64 x4) 0 3) (by decide) mk_12_isIn w_1754 w_1753 rfl rfl (Nat.le_of_ble_eq_true rfl) dX12_flight_47 ?_
        refine aw_bif_ne 59 dX12_flight_50 (by decide) ?_ ?_
        · refine aw_aload_n 0 dX12_flight_59 rfl rfl ?_
          refine aw_iload_n 1 dX12_flight_60 rfl rfl ?_
          refine aw_iload_n 2 dX12_flight_61 rfl rfl ?_
          refine aw_iload_n 3 dX12_flight_62 rfl rfl ?_
          refine aw_callVW_B (c12_flies s_2 x1 x2 x3) (io_12 (by decide)) ci_12 (by decide) mk_12_flies w_1984 w_109 w_1982 rfl rfl (Nat.le_of_ble_eq_true rfl) dX12_flight_63 (fun v_8 s_9 => ?_)
          refine aw_bif_ne 76 dX12_flight_66 (by decide) ?_ ?_
          · refine aw_iload 4 dX12_flight_76 rfl ?_
            refine aw_if_ne 88 dX12_flight_78 (by decide) ?_ ?_
            · refine aw_iload 4 dX12_flight_88 rfl ?_
              refine aw_iconst 1 dX12_flight_90 (by decide) ?_
              refine aw_icmp_ne 101 dX12_flight_91 (by decide) ?_ ?_
              · refine aw_iload 4 dX12_flight_101 rfl ?_
                refine aw_iconst 2 dX12_flight_103 (by decide) ?_
                refine aw_icmp_ne 114 dX12_flight_104 (by decide) ?_ ?_
                · refine aw_aload_n 0 dX12_flight_114 rfl rfl ?_
                  refine aw_getf (fg_12_31 (by decide)) ci_12 (by decide) w_1489 dX12_flight_115 ?_
                  exact aw_ireturn rfl dX12_flight_118
                · refine aw_aload_n 0 dX12_flight_107 rfl rfl ?_
                  refine aw_getf (fg_12_30 (by decide)) ci_12 (by decide) w_1488 dX12_flight_108 ?_
                  refine aw_goto 118 dX12_flight_111 (by decide) ?_
                  exact aw_ireturn rfl dX12_flight_118
              · refine aw_aload_n 0 dX12_flight_94 rfl rfl ?_
                refine aw_getf (fg_12_29 (by decide)) ci_12 (by decide) w_1487 dX12_flight_95 ?_
                refine aw_goto 118 dX12_flight_98 (by decide) ?_
                exact aw_ireturn rfl dX12_flight_118
            · refine aw_aload_n 0 dX12_flight_81 rfl rfl ?_
              refine aw_getf (fg_12_28 (by decide)) ci_12 (by decide) w_1486 dX12_flight_82 ?_
              refine aw_goto 118 dX12_flight_85 (by decide) ?_
              exact aw_ireturn rfl dX12_flight_118
          · refine aw_aload_n 0 dX12_flight_69 rfl rfl ?_
            refine aw_bipush 9 dX12_flight_70 (by decide) ?_
            refine aw_callVW_I (c12_refuse s_9 9) (io_12 (by decide)) ci_12 (by decide) mk_12_refuse w_1921 w_101 w_1919 rfl rfl (Nat.le_of_ble_eq_true rfl) dX12_flight_72 (fun v_10 s_11 => ?_)
            exact aw_ireturn rfl dX12_flight_75
        · refine aw_aload_n 0 dX12_flight_53 rfl rfl ?_
          refine aw_iconst 5 dX12_flight_54 (by decide) ?_
          refine aw_callVW_I (c12_refuse s_2 5) (io_12 (by decide)) ci_12 (by decide) mk_12_refuse w_1921 w_101 w_1919 rfl rfl (Nat.le_of_ble_eq_true rfl) dX12_flight_55 (fun v_12 s_13 => ?_)
          exact aw_ireturn rfl dX12_flight_58
  · refine aw_aload_n 0 dX12_flight_18 rfl rfl ?_
    refine aw_iconst 2 dX12_flight_19 (by decide) ?_
    refine aw_callVW_I (c12_refuse s_2 2) (io_12 (by decide)) ci_12 (by decide) mk_12_refuse w_1921 w_101 w_1919 rfl rfl (Nat.le_of_ble_eq_true rfl) dX12_flight_20 (fun v_14 s_15 => ?_)
    exact aw_ireturn rfl dX12_flight_23
def F12_becomes (σ : Mem) (x1 : Int32) (x2 : Int32) (x3 : Int32) : Option (Int32 × Mem) :=
  bnd (sI σ 12 0 0 1 0) fun s_1 => bnd (sI s_1 12 0 0 0 0) fun s_2 => (F12_isPeaAt s_2 x1).bind fun v_3 => if v_3 = true then (if (F12_isPuffing x2 40) = true then (if (F12_isSpit x3) = true then ((F12_fateOf s_2 x1 x2 x3).bind fun v_8 => some (v_8, s_2)) else (bd (F12_refuse s_2 5) fun v_6 s_7 => some (v_6, s_7))) else (bd (F12_refuse s_2 5) fun v_4 s_5 => some (v_4, s_5))) else (bd (F12_refuse s_2 2) fun v_9 s_10 => some (v_9, s_10))
set_option maxRecDepth 20000 in
theorem c12_becomes {l : Launch} {D : va_G} {ad : Nat → Nat → Nat → Nat} {cid : Nat → Nat → Nat → ClassId} (σ : Mem) (x1 : Int32) (x2 : Int32) (x3 : Int32) : AMF (XM l D ad cid) M12_becomes 3 eI [.ref (ad 12 0 0), .int x1, .int x2, .int x3] σ (F12_becomes σ x1 x2 x3) := by
  refine AM.ofW (by decide +kernel) (Nat.le_of_ble_eq_true rfl) (ls := [(0, .ref (ad 12 0 0)), (1, .int x1), (2, .int x2), (3, .int x3)]) rfl ?_
  refine aw_entry ?_
  unfold F12_becomes
  refine aw_aload_n 0 dX12_becomes_0 rfl rfl ?_
  refine aw_iconst 0 dX12_becomes_1 (by decide) ?_
  refine aw_putI (fs_12_1 (by decide)) ci_12 (by decide) rfl rfl w_1459 dX12_becomes_2 ?_
  refine aw_bndM (fun s_1 => ?_)
  refine aw_aload_n 0 dX12_becomes_5 rfl rfl ?_
  refine aw_iconst 0 dX12_becomes_6 (by decide) ?_
  refine aw_putI (fs_12_0 (by decide)) ci_12 (by decide) rfl rfl w_1458 dX12_becomes_7 ?_
  refine aw_bndM (fun s_2 => ?_)
  refine aw_aload_n 0 dX12_becomes_10 rfl rfl ?_
  refine aw_iload_n 1 dX12_becomes_11 rfl rfl ?_
  refine aw_callVO_B (c12_isPeaAt s_2 x1) (io_12 (by decide)) ci_12 (by decide) mk_12_isPeaAt w_1933 w_102 w_1931 rfl rfl (Nat.le_of_ble_eq_true rfl) dX12_becomes_12 (fun v_3 => ?_)
  refine aw_bif_ne 24 dX12_becomes_15 (by decide) ?_ ?_
  · refine aw_iload_n 2 dX12_becomes_24 rfl rfl ?_
    refine aw_bipush 40 dX12_becomes_25 (by decide) ?_
    refine aw_callST_B (c12_isPuffing s_2 x2 40) (by decide) mk_12_isPuffing w_1963 w_1962 rfl rfl (Nat.le_of_ble_eq_true rfl) dX12_becomes_27 ?_
    refine aw_bif_eq 50 dX12_becomes_30 (by decide) ?_ ?_
    · refine aw_aload_n 0 dX12_becomes_50 rfl rfl ?_
      refine aw_iconst 5 dX12_becomes_51 (by decide) ?_
      refine aw_callVW_I (c12_refuse s_2 5) (io_12 (by decide)) ci_12 (by decide) mk_12_refuse w_1921 w_101 w_1919 rfl rfl (Nat.le_of_ble_eq_true rfl) dX12_becomes_52 (fun v_4 s_5 => ?_)
      exact aw_ireturn rfl dX12_becomes_55
    · refine aw_iload_n 3 dX12_becomes_33 rfl rfl ?_
      refine aw_callST_B (c12_isSpit s_2 x3) (by decide) mk_12_isSpit w_1966 w_1965 rfl rfl (Nat.le_of_ble_eq_true rfl) dX12_becomes_34 ?_
      refine aw_bif_eq 50 dX12_becomes_37 (by decide) ?_ ?_
      · refine aw_aload_n 0 dX12_becomes_50 rfl rfl ?_
        refine aw_iconst 5 dX12_becomes_51 (by decide) ?_
        refine aw_callVW_I (c12_refuse s_2 5) (io_12 (by decide)) ci_12 (by decide) mk_12_refuse w_1921 w_101 w_1919 rfl rfl (Nat.le_of_ble_eq_true rfl) dX12_becomes_52 (fun v_6 s_7 => ?_)
        exact aw_ireturn rfl dX12_becomes_55
      · refine aw_aload_n 0 dX12_becomes_40 rfl rfl ?_
        refine aw_iload_n 1 dX12_becomes_41 rfl rfl ?_
        refine aw_iload_n 2 dX12_becomes_42 rfl rfl ?_
        refine aw_iload_n 3 dX12_becomes_43 rfl rfl ?_
        refine aw_callVO_I (c12_fateOf s_2 x1 x2 x3) (io_12 (by decide)) ci_12 (by decide) mk_12_fateOf w_1971 w_107 w_1969 rfl rfl (Nat.le_of_ble_eq_true rfl) dX12_becomes_44 (fun v_8 => ?_)
        refine aw_goto 55 dX12_becomes_47 (by decide) ?_
        exact aw_ireturn rfl dX12_becomes_55
  · refine aw_aload_n 0 dX12_becomes_18 rfl rfl ?_
    refine aw_iconst 2 dX12_becomes_19 (by decide) ?_
    refine aw_callVW_I (c12_refuse s_2 2) (io_12 (by decide)) ci_12 (by decide) mk_12_refuse w_1921 w_101 w_1919 rfl rfl (Nat.le_of_ble_eq_true rfl) dX12_becomes_20 (fun v_9 s_10 => ?_)
    exact aw_ireturn rfl dX12_becomes_23
def F12_isAim (x0 : Int32) (x1 : Int32) : Bool :=
  if (F12_isIn (Int32.toInt64 x0) (-60) 60) = true then (if (F12_isIn (Int32.toInt64 x1) (-60) 60) = true then (true) else (false)) else (false)
set_option maxRecDepth 20000 in
theorem c12_isAim {l : Launch} {D : va_G} {ad : Nat → Nat → Nat → Nat} {cid : Nat → Nat → Nat → ClassId} (σ : Mem) (x0 : Int32) (x1 : Int32) : AMF (XM l D ad cid) M12_isAim 1 eB [.int x0, .int x1] σ (some (F12_isAim x0 x1, σ)) := by
  refine AM.ofW (by decide +kernel) (Nat.le_of_ble_eq_true rfl) (ls := [(0, .int x0), (1, .int x1)]) rfl ?_
  refine aw_entryT ?_
  unfold F12_isAim
  refine aw_iload_n 0 dX12_isAim_0 rfl rfl ?_
  refine aw_i2l dX12_isAim_1 ?_
  refine aw_ldc2 w_1998 dX12_isAim_2 ?_
  refine aw_ldc2 w_1999 dX12_isAim_5 ?_
  refine aw_callST_B (c12_isIn σ (Int32.toInt64 x0) (-60) 60) (by decide) mk_12_isIn w_1754 w_1753 rfl rfl (Nat.le_of_ble_eq_true rfl) dX12_isAim_8 ?_
  refine aw_iteT ?_
  refine aw_bif_eq 32 dX12_isAim_11 (by decide) ?_ ?_
  · refine aw_iconst 0 dX12_isAim_32 (by decide) ?_
    exact aw_zreturn (b := false) rfl rfl dX12_isAim_33
  · refine aw_iload_n 1 dX12_isAim_14 rfl rfl ?_
    refine aw_i2l dX12_isAim_15 ?_
    refine aw_ldc2 w_1998 dX12_isAim_16 ?_
    refine aw_ldc2 w_1999 dX12_isAim_19 ?_
    refine aw_callST_B (c12_isIn σ (Int32.toInt64 x1) (-60) 60) (by decide) mk_12_isIn w_1754 w_1753 rfl rfl (Nat.le_of_ble_eq_true rfl) dX12_isAim_22 ?_
    refine aw_iteT ?_
    refine aw_bif_eq 32 dX12_isAim_25 (by decide) ?_ ?_
    · refine aw_iconst 0 dX12_isAim_32 (by decide) ?_
      exact aw_zreturn (b := false) rfl rfl dX12_isAim_33
    · refine aw_iconst 1 dX12_isAim_28 (by decide) ?_
      refine aw_goto 33 dX12_isAim_29 (by decide) ?_
      exact aw_zreturn (b := true) rfl rfl dX12_isAim_33
def F12_strikeX (σ : Mem) (x1 : Int32) (x2 : Int32) (x3 : Int32) (x4 : Int32) : Option Int32 :=
  (ald 3000 (gI σ 12 0 5) (65 + x1)).bind fun v_1 => some ((((x2 + v_1) + (gI σ 12 0 0 30)) + x4) + (x3 * (gI σ 12 0 0 31)))
set_option maxRecDepth 20000 in
theorem c12_strikeX {l : Launch} {D : va_G} {ad : Nat → Nat → Nat → Nat} {cid : Nat → Nat → Nat → ClassId} (σ : Mem) (x1 : Int32) (x2 : Int32) (x3 : Int32) (x4 : Int32) : AMF (XM l D ad cid) M12_strikeX 0 eI [.ref (ad 12 0 0), .int x1, .int x2, .int x3, .int x4] σ (oM σ (F12_strikeX σ x1 x2 x3 x4)) := by
  refine AM.ofW (by decide +kernel) (Nat.le_of_ble_eq_true rfl) (ls := [(0, .ref (ad 12 0 0)), (1, .int x1), (2, .int x2), (3, .int x3), (4, .int x4)]) rfl ?_
  refine aw_entryO ?_
  unfold F12_strikeX
  refine aw_iload_n 2 dX12_strikeX_0 rfl rfl ?_
  refine aw_aload_n 0 dX12_strikeX_1 rfl rfl ?_
  refine aw_getf (fg_12_20 (by decide)) ci_12 (by decide) w_1478 dX12_strikeX_2 ?_
  refine aw_bipush 65 dX12_strikeX_5 (by decide) ?_
  refine aw_iload_n 1 dX12_strikeX_7 rfl rfl ?_
  refine aw_iadd dX12_strikeX_8 ?_
  refine aw_iaload (ar_12_5 (by decide)) dX12_strikeX_9 (fun v_1 => ?_)
  refine aw_iadd dX12_strikeX_10 ?_
  refine aw_aload_n 0 dX12_strikeX_11 rfl rfl ?_
  refine aw_getf (fg_12_30 (by decide)) ci_12 (by decide) w_1488 dX12_strikeX_12 ?_
  refine aw_iadd dX12_strikeX_15 ?_
  refine aw_iload 4 dX12_strikeX_16 rfl ?_
  refine aw_iadd dX12_strikeX_18 ?_
  refine aw_iload_n 3 dX12_strikeX_19 rfl rfl ?_
  refine aw_aload_n 0 dX12_strikeX_20 rfl rfl ?_
  refine aw_getf (fg_12_31 (by decide)) ci_12 (by decide) w_1489 dX12_strikeX_21 ?_
  refine aw_imul dX12_strikeX_24 ?_
  refine aw_iadd dX12_strikeX_25 ?_
  exact aw_ireturn rfl dX12_strikeX_26
def F12_strikeY (σ : Mem) (x1 : Int32) (x2 : Int32) (x3 : Int32) : Option Int32 :=
  (ald 3000 (gI σ 12 0 5) (71 + x1)).bind fun v_1 => some (((x2 + v_1) + x3) - (gI σ 12 0 0 29))
set_option maxRecDepth 20000 in
theorem c12_strikeY {l : Launch} {D : va_G} {ad : Nat → Nat → Nat → Nat} {cid : Nat → Nat → Nat → ClassId} (σ : Mem) (x1 : Int32) (x2 : Int32) (x3 : Int32) : AMF (XM l D ad cid) M12_strikeY 0 eI [.ref (ad 12 0 0), .int x1, .int x2, .int x3] σ (oM σ (F12_strikeY σ x1 x2 x3)) := by
  refine AM.ofW (by decide +kernel) (Nat.le_of_ble_eq_true rfl) (ls := [(0, .ref (ad 12 0 0)), (1, .int x1), (2, .int x2), (3, .int x3)]) rfl ?_
  refine aw_entryO ?_
  unfold F12_strikeY
  refine aw_iload_n 2 dX12_strikeY_0 rfl rfl ?_
  refine aw_aload_n 0 dX12_strikeY_1 rfl rfl ?_
  refine aw_getf (fg_12_20 (by decide)) ci_12 (by decide) w_1478 dX12_strikeY_2 ?_
  refine aw_bipush 71 dX12_strikeY_5 (by decide) ?_
  refine aw_iload_n 1 dX12_strikeY_7 rfl rfl ?_
  refine aw_iadd dX12_strikeY_8 ?_
  refine aw_iaload (ar_12_5 (by decide)) dX12_strikeY_9 (fun v_1 => ?_)
  refine aw_iadd dX12_strikeY_10 ?_
  refine aw_iload_n 3 dX12_strikeY_11 rfl rfl ?_
  refine aw_iadd dX12_strikeY_12 ?_
  refine aw_aload_n 0 dX12_strikeY_13 rfl rfl ?_
  refine aw_getf (fg_12_29 (by decide)) ci_12 (by decide) w_1487 dX12_strikeY_14 ?_
  refine aw_isub dX12_strikeY_17 ?_
  exact aw_ireturn rfl dX12_strikeY_18
def F12_strikes (σ : Mem) (x1 : Int32) (x2 : Int32) (x3 : Int32) (x4 : Int32) (x5 : Int32) (x6 : Int32) (x7 : Int32) : Option (Int32 × Mem) :=
  bnd (sI σ 12 0 0 1 0) fun s_1 => bnd (sI s_1 12 0 0 0 0) fun s_2 => (F12_isPeaAt s_2 x2).bind fun v_3 => if v_3 = true then ((F12_isShooterAt s_2 x1).bind fun v_6 => if v_6 = true then ((ald 3000 (gI s_2 12 0 5) (53 + x1)).bind fun v_7 => if (F12_isPuffing x3 v_7) = true then (if (F12_isAim x4 x5) = true then (if (F12_isIn (Int32.toInt64 x6) (-1) 1) = true then (if (F12_isIn (Int32.toInt64 x7) 0 1) = true then ((ald 3000 (gI s_2 12 0 5) 7).bind fun v_14 => bd (F12_flies s_2 x2 x3 v_14) fun v_15 s_16 => if v_15 = true then (if x7 = 0 then ((F12_strikeX s_16 x1 x4 x6 0).bind fun v_18 => some (v_18, s_16)) else ((F12_strikeY s_16 x1 x5 0).bind fun v_17 => some (v_17, s_16))) else (bd (F12_refuse s_16 9) fun v_19 s_20 => some (v_19, s_20))) else (bd (F12_refuse s_2 5) fun v_21 s_22 => some (v_21, s_22))) else (bd (F12_refuse s_2 5) fun v_12 s_13 => some (v_12, s_13))) else (bd (F12_refuse s_2 5) fun v_10 s_11 => some (v_10, s_11))) else (bd (F12_refuse s_2 5) fun v_8 s_9 => some (v_8, s_9))) else (bd (F12_refuse s_2 2) fun v_23 s_24 => some (v_23, s_24))) else (bd (F12_refuse s_2 2) fun v_4 s_5 => some (v_4, s_5))
set_option maxRecDepth 20000 in
theorem c12_strikes {l : Launch} {D : va_G} {ad : Nat → Nat → Nat → Nat} {cid : Nat → Nat → Nat → ClassId} (σ : Mem) (x1 : Int32) (x2 : Int32) (x3 : Int32) (x4 : Int32) (x5 : Int32) (x6 : Int32) (x7 : Int32) : AMF (XM l D ad cid) M12_strikes 4 eI [.ref (ad 12 0 0), .int x1, .int x2, .int x3, .int x4, .int x5, .int x6, .int x7] σ (F12_strikes σ x1 x2 x3 x4 x5 x6 x7) := by
  refine AM.ofW (by decide +kernel) (Nat.le_of_ble_eq_true rfl) (ls := [(0, .ref (ad 12 0 0)), (1, .int x1), (2, .int x2), (3, .int x3), (4, .int x4), (5, .int x5), (6, .int x6), (7, .int x7)]) rfl ?_
  refine aw_entry ?_
  unfold F12_strikes
  refine aw_aload_n 0 dX12_strikes_0 rfl rfl ?_
  refine aw_iconst 0 dX12_strikes_1 (by decide) ?_
  refine aw_putI (fs_12_1 (by decide)) ci_12 (by decide) rfl rfl w_1459 dX12_strikes_2 ?_
  refine aw_bndM (fun s_1 => ?_)
  refine aw_aload_n 0 dX12_strikes_5 rfl rfl ?_
  refine aw_iconst 0 dX12_strikes_6 (by decide) ?_
  refine aw_putI (fs_12_0 (by decide)) ci_12 (by decide) rfl rfl w_1458 dX12_strikes_7 ?_
  refine aw_bndM (fun s_2 => ?_)
  refine aw_aload_n 0 dX12_strikes_10 rfl rfl ?_
  refine aw_iload_n 2 dX12_strikes_11 rfl rfl ?_
  refine aw_callVO_B (c12_isPeaAt s_2 x2) (io_12 (by decide)) ci_12 (by decide) mk_12_isPeaAt w_1933 w_102 w_1931 rfl rfl (Nat.le_of_ble_eq_true rfl) dX12_strikes_12 (fun v_3 => ?_)
  refine aw_bif_eq 26 dX12_strikes_15 (by decide) ?_ ?_
  · refine aw_aload_n 0 dX12_strikes_26 rfl rfl ?_
    refine aw_iconst 2 dX12_strikes_27 (by decide) ?_
    refine aw_callVW_I (c12_refuse s_2 2) (io_12 (by decide)) ci_12 (by decide) mk_12_refuse w_1921 w_101 w_1919 rfl rfl (Nat.le_of_ble_eq_true rfl) dX12_strikes_28 (fun v_4 s_5 => ?_)
    exact aw_ireturn rfl dX12_strikes_31
  · refine aw_aload_n 0 dX12_strikes_18 rfl rfl ?_
    refine aw_iload_n 1 dX12_strikes_19 rfl rfl ?_
    refine aw_callVO_B (c12_isShooterAt s_2 x1) (io_12 (by decide)) ci_12 (by decide) mk_12_isShooterAt w_1945 w_104 w_1943 rfl rfl (Nat.le_of_ble_eq_true rfl) dX12_strikes_20 (fun v_6 => ?_)
    refine aw_bif_ne 32 dX12_strikes_23 (by decide) ?_ ?_
    · refine aw_iload_n 3 dX12_strikes_32 rfl rfl ?_
      refine aw_aload_n 0 dX12_strikes_33 rfl rfl ?_
      refine aw_getf (fg_12_20 (by decide)) ci_12 (by decide) w_1478 dX12_strikes_34 ?_
      refine aw_bipush 53 dX12_strikes_37 (by decide) ?_
      refine aw_iload_n 1 dX12_strikes_39 rfl rfl ?_
      refine aw_iadd dX12_strikes_40 ?_
      refine aw_iaload (ar_12_5 (by decide)) dX12_strikes_41 (fun v_7 => ?_)
      refine aw_callST_B (c12_isPuffing s_2 x3 v_7) (by decide) mk_12_isPuffing w_1963 w_1962 rfl rfl (Nat.le_of_ble_eq_true rfl) dX12_strikes_42 ?_
      refine aw_bif_eq 82 dX12_strikes_45 (by decide) ?_ ?_
      · refine aw_aload_n 0 dX12_strikes_82 rfl rfl ?_
        refine aw_iconst 5 dX12_strikes_83 (by decide) ?_
        refine aw_callVW_I (c12_refuse s_2 5) (io_12 (by decide)) ci_12 (by decide) mk_12_refuse w_1921 w_101 w_1919 rfl rfl (Nat.le_of_ble_eq_true rfl) dX12_strikes_84 (fun v_8 s_9 => ?_)
        exact aw_ireturn rfl dX12_strikes_87
      · refine aw_iload 4 dX12_strikes_48 rfl ?_
        refine aw_iload 5 dX12_strikes_50 rfl ?_
        refine aw_callST_B (c12_isAim s_2 x4 x5) (by decide) mk_12_isAim w_1996 w_1995 rfl rfl (Nat.le_of_ble_eq_true rfl) dX12_strikes_52 ?_
        refine aw_bif_eq 82 dX12_strikes_55 (by decide) ?_ ?_
        · refine aw_aload_n 0 dX12_strikes_82 rfl rfl ?_
          refine aw_iconst 5 dX12_strikes_83 (by decide) ?_
          refine aw_callVW_I (c12_refuse s_2 5) (io_12 (by decide)) ci_12 (by decide) mk_12_refuse w_1921 w_101 w_1919 rfl rfl (Nat.le_of_ble_eq_true rfl) dX12_strikes_84 (fun v_10 s_11 => ?_)
          exact aw_ireturn rfl dX12_strikes_87
        · refine aw_iload 6 dX12_strikes_58 rfl ?_
          refine aw_i2l dX12_strikes_60 ?_
          refine aw_ldc2 w_1681 dX12_strikes_61 ?_
          refine aw_lconst 1 dX12_strikes_64 (by decide) ?_
          refine aw_callST_B (c12_isIn s_2 (Int32.toInt64 x6) (-1) 1) (by decide) mk_12_isIn w_1754 w_1753 rfl rfl (Nat.le_of_ble_eq_true rfl) dX12_strikes_65 ?_
          refine aw_bif_eq 82 dX12_strikes_68 (by decide) ?_ ?_
          · refine aw_aload_n 0 dX12_strikes_82 rfl rfl ?_
            refine aw_iconst 5 dX12_strikes_83 (by decide) ?_
            refine aw_callVW_I (c12_refuse s_2 5) (io_12 (by decide)) ci_12 (by decide) mk_12_refuse w_1921 w_101 w_1919 rfl rfl (Nat.le_of_ble_eq_true rfl) dX12_strikes_84 (fun v_12 s_13 => ?_)
            exact aw_ireturn rfl dX12_strikes_87
          · refine aw_iload 7 dX12_strikes_71 rfl ?_
            refine aw_i2l dX12_strikes_73 ?_
            refine aw_lconst 0 dX12_strikes_74 (by decide) ?_
            refine aw_lconst 1 dX12_strikes_75 (by decide) ?_
            refine aw_callST_B (c12_isIn s_2 (Int32.toInt64 x7) 0 1) (by decide) mk_12_isIn w_1754 w_1753 rfl rfl (Nat.le_of_ble_eq_true rfl) dX12_strikes_76 ?_
            refine aw_bif_ne 88 dX12_strikes_79 (by decide) ?_ ?_
            · refine aw_aload_n 0 dX12_strikes_88 rfl rfl ?_
              refine aw_iload_n 2 dX12_strikes_89 rfl rfl ?_
              refine aw_iload_n 3 dX12_strikes_90 rfl rfl ?_
              refine aw_aload_n 0 dX12_strikes_91 rfl rfl ?_
              refine aw_getf (fg_12_20 (by decide)) ci_12 (by decide) w_1478 dX12_strikes_92 ?_
              refine aw_bipush 7 dX12_strikes_95 (by decide) ?_
              refine aw_iaload (ar_12_5 (by decide)) dX12_strikes_97 (fun v_14 => ?_)
              refine aw_callVW_B (c12_flies s_2 x2 x3 v_14) (io_12 (by decide)) ci_12 (by decide) mk_12_flies w_1984 w_109 w_1982 rfl rfl (Nat.le_of_ble_eq_true rfl) dX12_strikes_98 (fun v_15 s_16 => ?_)
              refine aw_bif_ne 111 dX12_strikes_101 (by decide) ?_ ?_
              · refine aw_iload 7 dX12_strikes_111 rfl ?_
                refine aw_if_ne 129 dX12_strikes_113 (by decide) ?_ ?_
                · refine aw_aload_n 0 dX12_strikes_129 rfl rfl ?_
                  refine aw_iload_n 1 dX12_strikes_130 rfl rfl ?_
                  refine aw_iload 5 dX12_strikes_131 rfl ?_
                  refine aw_iconst 0 dX12_strikes_133 (by decide) ?_
                  refine aw_callVO_I (c12_strikeY s_16 x1 x5 0) (io_12 (by decide)) ci_12 (by decide) mk_12_strikeY w_2006 w_111 w_2004 rfl rfl (Nat.le_of_ble_eq_true rfl) dX12_strikes_134 (fun v_17 => ?_)
                  exact aw_ireturn rfl dX12_strikes_137
                · refine aw_aload_n 0 dX12_strikes_116 rfl rfl ?_
                  refine aw_iload_n 1 dX12_strikes_117 rfl rfl ?_
                  refine aw_iload 4 dX12_strikes_118 rfl ?_
                  refine aw_iload 6 dX12_strikes_120 rfl ?_
                  refine aw_iconst 0 dX12_strikes_122 (by decide) ?_
                  refine aw_callVO_I (c12_strikeX s_16 x1 x4 x6 0) (io_12 (by decide)) ci_12 (by decide) mk_12_strikeX w_2002 w_110 w_2000 rfl rfl (Nat.le_of_ble_eq_true rfl) dX12_strikes_123 (fun v_18 => ?_)
                  refine aw_goto 137 dX12_strikes_126 (by decide) ?_
                  exact aw_ireturn rfl dX12_strikes_137
              · refine aw_aload_n 0 dX12_strikes_104 rfl rfl ?_
                refine aw_bipush 9 dX12_strikes_105 (by decide) ?_
                refine aw_callVW_I (c12_refuse s_16 9) (io_12 (by decide)) ci_12 (by decide) mk_12_refuse w_1921 w_101 w_1919 rfl rfl (Nat.le_of_ble_eq_true rfl) dX12_strikes_107 (fun v_19 s_20 => ?_)
                exact aw_ireturn rfl dX12_strikes_110
            · refine aw_aload_n 0 dX12_strikes_82 rfl rfl ?_
              refine aw_iconst 5 dX12_strikes_83 (by decide) ?_
              refine aw_callVW_I (c12_refuse s_2 5) (io_12 (by decide)) ci_12 (by decide) mk_12_refuse w_1921 w_101 w_1919 rfl rfl (Nat.le_of_ble_eq_true rfl) dX12_strikes_84 (fun v_21 s_22 => ?_)
              exact aw_ireturn rfl dX12_strikes_87
    · refine aw_aload_n 0 dX12_strikes_26 rfl rfl ?_
      refine aw_iconst 2 dX12_strikes_27 (by decide) ?_
      refine aw_callVW_I (c12_refuse s_2 2) (io_12 (by decide)) ci_12 (by decide) mk_12_refuse w_1921 w_101 w_1919 rfl rfl (Nat.le_of_ble_eq_true rfl) dX12_strikes_28 (fun v_23 s_24 => ?_)
      exact aw_ireturn rfl dX12_strikes_31
def F12_isPlace (x0 : Int32) (x1 : Int32) : Bool :=
  if (F12_isIn (Int32.toInt64 x0) (-999) 999) = true then (if (F12_isIn (Int32.toInt64 x1) (-999) 999) = true then (true) else (false)) else (false)
set_option maxRecDepth 20000 in
theorem c12_isPlace {l : Launch} {D : va_G} {ad : Nat → Nat → Nat → Nat} {cid : Nat → Nat → Nat → ClassId} (σ : Mem) (x0 : Int32) (x1 : Int32) : AMF (XM l D ad cid) M12_isPlace 1 eB [.int x0, .int x1] σ (some (F12_isPlace x0 x1, σ)) := by
  refine AM.ofW (by decide +kernel) (Nat.le_of_ble_eq_true rfl) (ls := [(0, .int x0), (1, .int x1)]) rfl ?_
  refine aw_entryT ?_
  unfold F12_isPlace
  refine aw_iload_n 0 dX12_isPlace_0 rfl rfl ?_
  refine aw_i2l dX12_isPlace_1 ?_
  refine aw_ldc2 w_2015 dX12_isPlace_2 ?_
  refine aw_ldc2 w_2016 dX12_isPlace_5 ?_
  refine aw_callST_B (c12_isIn σ (Int32.toInt64 x0) (-999) 999) (by decide) mk_12_isIn w_1754 w_1753 rfl rfl (Nat.le_of_ble_eq_true rfl) dX12_isPlace_8 ?_
  refine aw_iteT ?_
  refine aw_bif_eq 32 dX12_isPlace_11 (by decide) ?_ ?_
  · refine aw_iconst 0 dX12_isPlace_32 (by decide) ?_
    exact aw_zreturn (b := false) rfl rfl dX12_isPlace_33
  · refine aw_iload_n 1 dX12_isPlace_14 rfl rfl ?_
    refine aw_i2l dX12_isPlace_15 ?_
    refine aw_ldc2 w_2015 dX12_isPlace_16 ?_
    refine aw_ldc2 w_2016 dX12_isPlace_19 ?_
    refine aw_callST_B (c12_isIn σ (Int32.toInt64 x1) (-999) 999) (by decide) mk_12_isIn w_1754 w_1753 rfl rfl (Nat.le_of_ble_eq_true rfl) dX12_isPlace_22 ?_
    refine aw_iteT ?_
    refine aw_bif_eq 32 dX12_isPlace_25 (by decide) ?_ ?_
    · refine aw_iconst 0 dX12_isPlace_32 (by decide) ?_
      exact aw_zreturn (b := false) rfl rfl dX12_isPlace_33
    · refine aw_iconst 1 dX12_isPlace_28 (by decide) ?_
      refine aw_goto 33 dX12_isPlace_29 (by decide) ?_
      exact aw_zreturn (b := true) rfl rfl dX12_isPlace_33
def F12_ringOf_L9 (x1 : Int32) (x2 : Int32) : Nat → Mem → Int32 → Option Int32
  | 0 => fun _ _ => none
  | n + 1 => fun σ x3 =>
    if x3 < 0 then (some (-1)) else ((ald 3000 (gI σ 12 0 5) (9 + x3)).bind fun v_3 => (ald 3000 (gI σ 12 0 5) (9 + x3)).bind fun v_4 => if (v_3 * v_4) < ((x1 * x1) + (x2 * x2)) then ((F12_ringOf_L9 x1 x2 n) σ (x3 + (-1))) else (some x3))
set_option maxRecDepth 20000 in
theorem c12_ringOf_L9 {l : Launch} {D : va_G} {ad : Nat → Nat → Nat → Nat} {cid : Nat → Nat → Nat → ClassId} (x1 : Int32) (x2 : Int32) : ∀ (n : Nat) (σ : Mem) (x3 : Int32), AW (XM l D ad cid) M12_ringOf 0 eI [(0, .ref (ad 12 0 0)), (1, .int x1), (2, .int x2), (3, .int x3)] 9 [] σ ((F12_ringOf_L9 x1 x2 n σ x3).bind (fun v => some (v, σ))) := by
  intro n
  induction n with
  | zero => intros; exact aw_none
  | succ n ih =>
    intro σ x3
    rw [F12_ringOf_L9.eq_2]
    refine aw_iload_n 3 dX12_ringOf_9 rfl rfl ?_
    refine aw_if_lt 50 dX12_ringOf_10 (by decide) ?_ ?_
    · refine aw_iconst (-1) dX12_ringOf_50 (by decide) ?_
      exact aw_ireturn rfl dX12_ringOf_51
    · refine aw_iload_n 1 dX12_ringOf_13 rfl rfl ?_
      refine aw_iload_n 1 dX12_ringOf_14 rfl rfl ?_
      refine aw_imul dX12_ringOf_15 ?_
      refine aw_iload_n 2 dX12_ringOf_16 rfl rfl ?_
      refine aw_iload_n 2 dX12_ringOf_17 rfl rfl ?_
      refine aw_imul dX12_ringOf_18 ?_
      refine aw_iadd dX12_ringOf_19 ?_
      refine aw_aload_n 0 dX12_ringOf_20 rfl rfl ?_
      refine aw_getf (fg_12_20 (by decide)) ci_12 (by decide) w_1478 dX12_ringOf_21 ?_
      refine aw_bipush 9 dX12_ringOf_24 (by decide) ?_
      refine aw_iload_n 3 dX12_ringOf_26 rfl rfl ?_
      refine aw_iadd dX12_ringOf_27 ?_
      refine aw_iaload (ar_12_5 (by decide)) dX12_ringOf_28 (fun v_3 => ?_)
      refine aw_aload_n 0 dX12_ringOf_29 rfl rfl ?_
      refine aw_getf (fg_12_20 (by decide)) ci_12 (by decide) w_1478 dX12_ringOf_30 ?_
      refine aw_bipush 9 dX12_ringOf_33 (by decide) ?_
      refine aw_iload_n 3 dX12_ringOf_35 rfl rfl ?_
      refine aw_iadd dX12_ringOf_36 ?_
      refine aw_iaload (ar_12_5 (by decide)) dX12_ringOf_37 (fun v_4 => ?_)
      refine aw_imul dX12_ringOf_38 ?_
      refine aw_icmp_gt 44 dX12_ringOf_39 (by decide) ?_ ?_
      · refine aw_iinc (ls' := [(0, .ref (ad 12 0 0)), (1, .int x1), (2, .int x2), (3, .int (x3 + (-1)))]) (x3 + (-1)) 3 [1, 2, 3, 0] dX12_ringOf_44 rfl (by rfl) (by decide) rfl ?_
        refine aw_goto 9 dX12_ringOf_47 (by decide) ?_
        exact ih σ (x3 + (-1))
      · refine aw_iload_n 3 dX12_ringOf_42 rfl rfl ?_
        exact aw_ireturn rfl dX12_ringOf_43
def F12_ringOf (σ : Mem) (x1 : Int32) (x2 : Int32) : Option Int32 :=
  (ald 3000 (gI σ 12 0 5) 4).bind fun v_1 => bnd (v_1 - 1) fun v_2 => F12_ringOf_L9 x1 x2 fuelK σ v_2
set_option maxRecDepth 20000 in
theorem c12_ringOf {l : Launch} {D : va_G} {ad : Nat → Nat → Nat → Nat} {cid : Nat → Nat → Nat → ClassId} (σ : Mem) (x1 : Int32) (x2 : Int32) : AMF (XM l D ad cid) M12_ringOf 0 eI [.ref (ad 12 0 0), .int x1, .int x2] σ (oM σ (F12_ringOf σ x1 x2)) := by
  refine AM.ofW (by decide +kernel) (Nat.le_of_ble_eq_true rfl) (ls := [(0, .ref (ad 12 0 0)), (1, .int x1), (2, .int x2)]) rfl ?_
  refine aw_entryO ?_
  unfold F12_ringOf
  refine aw_aload_n 0 dX12_ringOf_0 rfl rfl ?_
  refine aw_getf (fg_12_20 (by decide)) ci_12 (by decide) w_1478 dX12_ringOf_1 ?_
  refine aw_iconst 4 dX12_ringOf_4 (by decide) ?_
  refine aw_iaload (ar_12_5 (by decide)) dX12_ringOf_5 (fun v_1 => ?_)
  refine aw_iconst 1 dX12_ringOf_6 (by decide) ?_
  refine aw_isub dX12_ringOf_7 ?_
  refine aw_bnd_int (fun v_2 => ?_)
  refine aw_istore_n (ls' := [(0, .ref (ad 12 0 0)), (1, .int x1), (2, .int x2), (3, .int v_2)]) [1, 2, 3, 0] dX12_ringOf_8 rfl (by decide) rfl ?_
  exact c12_ringOf_L9 x1 x2 fuelK σ v_2
def F12_pointsOf (σ : Mem) (x1 : Int32) (x2 : Int32) : Option Int32 :=
  (F12_ringOf σ x1 x2).bind fun v_1 => if 0 ≤ v_1 then ((ald 3000 (gI σ 12 0 5) (15 + v_1)).bind fun v_2 => some v_2) else (some 0)
set_option maxRecDepth 20000 in
theorem c12_pointsOf {l : Launch} {D : va_G} {ad : Nat → Nat → Nat → Nat} {cid : Nat → Nat → Nat → ClassId} (σ : Mem) (x1 : Int32) (x2 : Int32) : AMF (XM l D ad cid) M12_pointsOf 1 eI [.ref (ad 12 0 0), .int x1, .int x2] σ (oM σ (F12_pointsOf σ x1 x2)) := by
  refine AM.ofW (by decide +kernel) (Nat.le_of_ble_eq_true rfl) (ls := [(0, .ref (ad 12 0 0)), (1, .int x1), (2, .int x2)]) rfl ?_
  refine aw_entryO ?_
  unfold F12_pointsOf
  refine aw_aload_n 0 dX12_pointsOf_0 rfl rfl ?_
  refine aw_iload_n 1 dX12_pointsOf_1 rfl rfl ?_
  refine aw_iload_n 2 dX12_pointsOf_2 rfl rfl ?_
  refine aw_callVO_I (c12_ringOf σ x1 x2) (io_12 (by decide)) ci_12 (by decide) mk_12_ringOf w_2023 w_113 w_2021 rfl rfl (Nat.le_of_ble_eq_true rfl) dX12_pointsOf_3 (fun v_1 => ?_)
  refine aw_istore_n (ls' := [(0, .ref (ad 12 0 0)), (3, .int v_1)]) [1, 0] dX12_pointsOf_6 rfl (by decide) rfl ?_
  refine aw_iload_n 1 dX12_pointsOf_7 rfl rfl ?_
  refine aw_if_ge 15 dX12_pointsOf_8 (by decide) ?_ ?_
  · refine aw_aload_n 0 dX12_pointsOf_15 rfl rfl ?_
    refine aw_getf (fg_12_20 (by decide)) ci_12 (by decide) w_1478 dX12_pointsOf_16 ?_
    refine aw_bipush 15 dX12_pointsOf_19 (by decide) ?_
    refine aw_iload_n 1 dX12_pointsOf_21 rfl rfl ?_
    refine aw_iadd dX12_pointsOf_22 ?_
    refine aw_iaload (ar_12_5 (by decide)) dX12_pointsOf_23 (fun v_2 => ?_)
    exact aw_ireturn rfl dX12_pointsOf_24
  · refine aw_iconst 0 dX12_pointsOf_11 (by decide) ?_
    refine aw_goto 24 dX12_pointsOf_12 (by decide) ?_
    exact aw_ireturn rfl dX12_pointsOf_24
def F12_points (σ : Mem) (x1 : Int32) (x2 : Int32) : Option (Int32 × Mem) :=
  bnd (sI σ 12 0 0 1 0) fun s_1 => bnd (sI s_1 12 0 0 0 0) fun s_2 => if (F12_isPlace x1 x2) = true then ((F12_pointsOf s_2 x1 x2).bind fun v_5 => some (v_5, s_2)) else (bd (F12_refuse s_2 5) fun v_3 s_4 => some (v_3, s_4))
set_option maxRecDepth 20000 in
theorem c12_points {l : Launch} {D : va_G} {ad : Nat → Nat → Nat → Nat} {cid : Nat → Nat → Nat → ClassId} (σ : Mem) (x1 : Int32) (x2 : Int32) : AMF (XM l D ad cid) M12_points 2 eI [.ref (ad 12 0 0), .int x1, .int x2] σ (F12_points σ x1 x2) := by
  refine AM.ofW (by decide +kernel) (Nat.le_of_ble_eq_true rfl) (ls := [(0, .ref (ad 12 0 0)), (1, .int x1), (2, .int x2)]) rfl ?_
  refine aw_entry ?_
  unfold F12_points
  refine aw_aload_n 0 dX12_points_0 rfl rfl ?_
  refine aw_iconst 0 dX12_points_1 (by decide) ?_
  refine aw_putI (fs_12_1 (by decide)) ci_12 (by decide) rfl rfl w_1459 dX12_points_2 ?_
  refine aw_bndM (fun s_1 => ?_)
  refine aw_aload_n 0 dX12_points_5 rfl rfl ?_
  refine aw_iconst 0 dX12_points_6 (by decide) ?_
  refine aw_putI (fs_12_0 (by decide)) ci_12 (by decide) rfl rfl w_1458 dX12_points_7 ?_
  refine aw_bndM (fun s_2 => ?_)
  refine aw_iload_n 1 dX12_points_10 rfl rfl ?_
  refine aw_iload_n 2 dX12_points_11 rfl rfl ?_
  refine aw_callST_B (c12_isPlace s_2 x1 x2) (by decide) mk_12_isPlace w_2013 w_2012 rfl rfl (Nat.le_of_ble_eq_true rfl) dX12_points_12 ?_
  refine aw_bif_eq 27 dX12_points_15 (by decide) ?_ ?_
  · refine aw_aload_n 0 dX12_points_27 rfl rfl ?_
    refine aw_iconst 5 dX12_points_28 (by decide) ?_
    refine aw_callVW_I (c12_refuse s_2 5) (io_12 (by decide)) ci_12 (by decide) mk_12_refuse w_1921 w_101 w_1919 rfl rfl (Nat.le_of_ble_eq_true rfl) dX12_points_29 (fun v_3 s_4 => ?_)
    exact aw_ireturn rfl dX12_points_32
  · refine aw_aload_n 0 dX12_points_18 rfl rfl ?_
    refine aw_iload_n 1 dX12_points_19 rfl rfl ?_
    refine aw_iload_n 2 dX12_points_20 rfl rfl ?_
    refine aw_callVO_I (c12_pointsOf s_2 x1 x2) (io_12 (by decide)) ci_12 (by decide) mk_12_pointsOf w_2019 w_112 w_2017 rfl rfl (Nat.le_of_ble_eq_true rfl) dX12_points_21 (fun v_5 => ?_)
    refine aw_goto 32 dX12_points_24 (by decide) ?_
    exact aw_ireturn rfl dX12_points_32
def F12_ringAt (σ : Mem) (x1 : Int32) (x2 : Int32) : Option (Int32 × Mem) :=
  bnd (sI σ 12 0 0 1 0) fun s_1 => bnd (sI s_1 12 0 0 0 0) fun s_2 => if (F12_isPlace x1 x2) = true then ((F12_ringOf s_2 x1 x2).bind fun v_3 => if 0 ≤ v_3 then (some (v_3, s_2)) else (bd (F12_refuse s_2 8) fun v_4 s_5 => some (v_4, s_5))) else (bd (F12_refuse s_2 5) fun v_6 s_7 => some (v_6, s_7))
set_option maxRecDepth 20000 in
theorem c12_ringAt {l : Launch} {D : va_G} {ad : Nat → Nat → Nat → Nat} {cid : Nat → Nat → Nat → ClassId} (σ : Mem) (x1 : Int32) (x2 : Int32) : AMF (XM l D ad cid) M12_ringAt 2 eI [.ref (ad 12 0 0), .int x1, .int x2] σ (F12_ringAt σ x1 x2) := by
  refine AM.ofW (by decide +kernel) (Nat.le_of_ble_eq_true rfl) (ls := [(0, .ref (ad 12 0 0)), (1, .int x1), (2, .int x2)]) rfl ?_
  refine aw_entry ?_
  unfold F12_ringAt
  refine aw_aload_n 0 dX12_ringAt_0 rfl rfl ?_
  refine aw_iconst 0 dX12_ringAt_1 (by decide) ?_
  refine aw_putI (fs_12_1 (by decide)) ci_12 (by decide) rfl rfl w_1459 dX12_ringAt_2 ?_
  refine aw_bndM (fun s_1 => ?_)
  refine aw_aload_n 0 dX12_ringAt_5 rfl rfl ?_
  refine aw_iconst 0 dX12_ringAt_6 (by decide) ?_
  refine aw_putI (fs_12_0 (by decide)) ci_12 (by decide) rfl rfl w_1458 dX12_ringAt_7 ?_
  refine aw_bndM (fun s_2 => ?_)
  refine aw_iload_n 1 dX12_ringAt_10 rfl rfl ?_
  refine aw_iload_n 2 dX12_ringAt_11 rfl rfl ?_
  refine aw_callST_B (c12_isPlace s_2 x1 x2) (by decide) mk_12_isPlace w_2013 w_2012 rfl rfl (Nat.le_of_ble_eq_true rfl) dX12_ringAt_12 ?_
  refine aw_bif_ne 24 dX12_ringAt_15 (by decide) ?_ ?_
  · refine aw_aload_n 0 dX12_ringAt_24 rfl rfl ?_
    refine aw_iload_n 1 dX12_ringAt_25 rfl rfl ?_
    refine aw_iload_n 2 dX12_ringAt_26 rfl rfl ?_
    refine aw_callVO_I (c12_ringOf s_2 x1 x2) (io_12 (by decide)) ci_12 (by decide) mk_12_ringOf w_2023 w_113 w_2021 rfl rfl (Nat.le_of_ble_eq_true rfl) dX12_ringAt_27 (fun v_3 => ?_)
    refine aw_istore_n (ls' := [(0, .ref (ad 12 0 0)), (3, .int v_3)]) [1, 0] dX12_ringAt_30 rfl (by decide) rfl ?_
    refine aw_iload_n 1 dX12_ringAt_31 rfl rfl ?_
    refine aw_if_ge 44 dX12_ringAt_32 (by decide) ?_ ?_
    · refine aw_iload_n 1 dX12_ringAt_44 rfl rfl ?_
      exact aw_ireturn rfl dX12_ringAt_45
    · refine aw_aload_n 0 dX12_ringAt_35 rfl rfl ?_
      refine aw_bipush 8 dX12_ringAt_36 (by decide) ?_
      refine aw_callVW_I (c12_refuse s_2 8) (io_12 (by decide)) ci_12 (by decide) mk_12_refuse w_1921 w_101 w_1919 rfl rfl (Nat.le_of_ble_eq_true rfl) dX12_ringAt_38 (fun v_4 s_5 => ?_)
      refine aw_goto 45 dX12_ringAt_41 (by decide) ?_
      exact aw_ireturn rfl dX12_ringAt_45
  · refine aw_aload_n 0 dX12_ringAt_18 rfl rfl ?_
    refine aw_iconst 5 dX12_ringAt_19 (by decide) ?_
    refine aw_callVW_I (c12_refuse s_2 5) (io_12 (by decide)) ci_12 (by decide) mk_12_refuse w_1921 w_101 w_1919 rfl rfl (Nat.le_of_ble_eq_true rfl) dX12_ringAt_20 (fun v_6 s_7 => ?_)
    exact aw_ireturn rfl dX12_ringAt_23
def F12_handOf (σ : Mem) (x1 : Int32) (x2 : Int32) : Option Int32 :=
  (ald 3000 (gI σ 12 0 5) (59 + x1)).bind fun v_1 => if x2 = 0 then (some v_1) else (if x2 = 1 then (some ((v_1 + 1) / 2)) else (if x2 = 2 then (some (iMin 1 v_1)) else (some 0)))
set_option maxRecDepth 20000 in
theorem c12_handOf {l : Launch} {D : va_G} {ad : Nat → Nat → Nat → Nat} {cid : Nat → Nat → Nat → ClassId} (σ : Mem) (x1 : Int32) (x2 : Int32) : AMF (XM l D ad cid) M12_handOf 0 eI [.ref (ad 12 0 0), .int x1, .int x2] σ (oM σ (F12_handOf σ x1 x2)) := by
  refine AM.ofW (by decide +kernel) (Nat.le_of_ble_eq_true rfl) (ls := [(0, .ref (ad 12 0 0)), (1, .int x1), (2, .int x2)]) rfl ?_
  refine aw_entryO ?_
  unfold F12_handOf
  refine aw_aload_n 0 dX12_handOf_0 rfl rfl ?_
  refine aw_getf (fg_12_20 (by decide)) ci_12 (by decide) w_1478 dX12_handOf_1 ?_
  refine aw_bipush 59 dX12_handOf_4 (by decide) ?_
  refine aw_iload_n 1 dX12_handOf_6 rfl rfl ?_
  refine aw_iadd dX12_handOf_7 ?_
  refine aw_iaload (ar_12_5 (by decide)) dX12_handOf_8 (fun v_1 => ?_)
  refine aw_istore_n (ls' := [(2, .int x2), (3, .int v_1)]) [3, 0] dX12_handOf_9 rfl (by decide) rfl ?_
  refine aw_iload_n 0 dX12_handOf_10 rfl rfl ?_
  refine aw_if_ne 18 dX12_handOf_11 (by decide) ?_ ?_
  · refine aw_iload_n 0 dX12_handOf_18 rfl rfl ?_
    refine aw_iconst 1 dX12_handOf_19 (by decide) ?_
    refine aw_icmp_ne 31 dX12_handOf_20 (by decide) ?_ ?_
    · refine aw_iload_n 0 dX12_handOf_31 rfl rfl ?_
      refine aw_iconst 2 dX12_handOf_32 (by decide) ?_
      refine aw_icmp_ne 44 dX12_handOf_33 (by decide) ?_ ?_
      · refine aw_iconst 0 dX12_handOf_44 (by decide) ?_
        exact aw_ireturn rfl dX12_handOf_45
      · refine aw_iconst 1 dX12_handOf_36 (by decide) ?_
        refine aw_iload_n 1 dX12_handOf_37 rfl rfl ?_
        refine aw_min w_2037 w_864 w_159 w_865 (Nat.le_of_ble_eq_true rfl) dX12_handOf_38 ?_
        refine aw_goto 45 dX12_handOf_41 (by decide) ?_
        exact aw_ireturn rfl dX12_handOf_45
    · refine aw_iload_n 1 dX12_handOf_23 rfl rfl ?_
      refine aw_iconst 1 dX12_handOf_24 (by decide) ?_
      refine aw_iadd dX12_handOf_25 ?_
      refine aw_iconst 2 dX12_handOf_26 (by decide) ?_
      refine aw_idiv_c dX12_handOf_27 (by decide) ?_
      refine aw_goto 45 dX12_handOf_28 (by decide) ?_
      exact aw_ireturn rfl dX12_handOf_45
  · refine aw_iload_n 1 dX12_handOf_14 rfl rfl ?_
    refine aw_goto 45 dX12_handOf_15 (by decide) ?_
    exact aw_ireturn rfl dX12_handOf_45
