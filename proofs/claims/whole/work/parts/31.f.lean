def F9_parsePea_p142 (σ : Mem) (t0 : Nat) (x2 : Int32) : Option (Bool × Mem) :=
  bd (F8_skipWord σ 11) fun v_19 s_20 => if v_19 = true then (chk 8 x2 <| bnd (sI s_20 9 t0 7 (Int32.toNatClampNeg x2) 1) fun s_25 => bnd (sI s_25 9 t0 0 7 ((gI s_25 9 t0 0 7) + 1)) fun s_26 => bd (F8_takeSemicolon s_26) fun v_27 s_28 => some (v_27, s_28)) else (chk 8 x2 <| bnd (sI s_20 9 t0 7 (Int32.toNatClampNeg x2) 0) fun s_21 => bnd (sI s_21 9 t0 0 7 ((gI s_21 9 t0 0 7) + 1)) fun s_22 => bd (F8_takeSemicolon s_22) fun v_23 s_24 => some (v_23, s_24))
set_option maxRecDepth 20000 in
theorem c9_parsePea_p142 {l : Launch} {D : va_G} {ad : Nat → Nat → Nat → Nat} {cid : Nat → Nat → Nat → ClassId} (σ : Mem) (t0 : Nat) (ht0 : t0 < 5) (x2 : Int32) : AW (XC l D ad cid) M9_parsePea 5 eB [(0, .ref (ad 9 t0 0)), (1, .ref (ad 8 0 0)), (2, .int x2)] 142 [] σ ((F9_parsePea_p142 σ t0 x2).bind some) := by
  unfold F9_parsePea_p142
  refine aw_aload_n 0 dX9_parsePea_142 rfl rfl ?_
  refine aw_getf (fg_9_12 (by omega)) ci_9 (by decide) w_348 dX9_parsePea_143 ?_
  refine aw_iload_n 2 dX9_parsePea_146 rfl rfl ?_
  refine aw_aload_n 1 dX9_parsePea_147 rfl rfl ?_
  refine aw_bipush 11 dX9_parsePea_148 (by decide) ?_
  refine aw_callVW_B (c8_skipWord σ 11) (io_8 (by decide)) ci_8 (by decide) mk_8_skipWord w_914 w_915 w_929 rfl rfl (Nat.le_of_ble_eq_true rfl) dX9_parsePea_150 (fun v_19 s_20 => ?_)
  refine aw_bif_eq 160 dX9_parsePea_153 (by decide) ?_ ?_
  · refine aw_iconst 0 dX9_parsePea_160 (by decide) ?_
    refine aw_iastore (ar_9_7 (by omega)) dX9_parsePea_161 ?_
    refine aw_bndM (fun s_21 => ?_)
    refine aw_aload_n 0 dX9_parsePea_162 rfl rfl ?_
    refine aw_dup dX9_parsePea_163 rfl ?_
    refine aw_getf (fg_9_7 (by omega)) ci_9 (by decide) w_336 dX9_parsePea_164 ?_
    refine aw_iconst 1 dX9_parsePea_167 (by decide) ?_
    refine aw_iadd dX9_parsePea_168 ?_
    refine aw_putI (fs_9_7 (by omega)) ci_9 (by decide) rfl rfl w_336 dX9_parsePea_169 ?_
    refine aw_bndM (fun s_22 => ?_)
    refine aw_aload_n 1 dX9_parsePea_172 rfl rfl ?_
    refine aw_callVW_B (c8_takeSemicolon s_22 ) (io_8 (by decide)) ci_8 (by decide) mk_8_takeSemicolon w_918 w_919 w_917 rfl rfl (Nat.le_of_ble_eq_true rfl) dX9_parsePea_173 (fun v_23 s_24 => ?_)
    exact aw_zreturn (b := v_23) rfl rfl dX9_parsePea_176
  · refine aw_iconst 1 dX9_parsePea_156 (by decide) ?_
    refine aw_goto 161 dX9_parsePea_157 (by decide) ?_
    refine aw_iastore (ar_9_7 (by omega)) dX9_parsePea_161 ?_
    refine aw_bndM (fun s_25 => ?_)
    refine aw_aload_n 0 dX9_parsePea_162 rfl rfl ?_
    refine aw_dup dX9_parsePea_163 rfl ?_
    refine aw_getf (fg_9_7 (by omega)) ci_9 (by decide) w_336 dX9_parsePea_164 ?_
    refine aw_iconst 1 dX9_parsePea_167 (by decide) ?_
    refine aw_iadd dX9_parsePea_168 ?_
    refine aw_putI (fs_9_7 (by omega)) ci_9 (by decide) rfl rfl w_336 dX9_parsePea_169 ?_
    refine aw_bndM (fun s_26 => ?_)
    refine aw_aload_n 1 dX9_parsePea_172 rfl rfl ?_
    refine aw_callVW_B (c8_takeSemicolon s_26 ) (io_8 (by decide)) ci_8 (by decide) mk_8_takeSemicolon w_918 w_919 w_917 rfl rfl (Nat.le_of_ble_eq_true rfl) dX9_parsePea_173 (fun v_27 s_28 => ?_)
    exact aw_zreturn (b := v_27) rfl rfl dX9_parsePea_176
def F9_parsePea (σ : Mem) (t0 : Nat) : Option (Bool × Mem) :=
  if (gI σ 9 t0 0 7) < 8 then (bd (F8_advance σ) fun _ s_1 => bnd (gI s_1 9 t0 0 7) fun v_2 => chk 8 v_2 <| bnd (sL s_1 9 t0 3 (Int32.toNatClampNeg v_2) (gL s_1 8 0 0 6)) fun s_3 => bd (F9_takeNewName s_3 t0) fun v_4 s_5 => if v_4 = true then (bd (F8_takeWord s_5 8) fun v_6 s_7 => if v_6 = true then (bd (F8_takeNumber s_7 1 12) fun v_8 s_9 => if v_8 = true then (chk 8 v_2 <| bnd (sI s_9 9 t0 4 (Int32.toNatClampNeg v_2) (gI s_9 8 0 0 9)) fun s_10 => bd (F8_takeWord s_10 9) fun v_11 s_12 => if v_11 = true then (bd (F8_takeNumber s_12 1 20) fun v_13 s_14 => if v_13 = true then (chk 8 v_2 <| bnd (sI s_14 9 t0 5 (Int32.toNatClampNeg v_2) (gI s_14 8 0 0 9)) fun s_15 => chk 8 v_2 <| bnd (sI s_15 9 t0 6 (Int32.toNatClampNeg v_2) 0) fun s_16 => bd (F8_skipWord s_16 10) fun v_17 s_18 => if v_17 = true then (bd (F8_takeNumber s_18 0 4) fun v_29 s_30 => if v_29 = true then (chk 8 v_2 <| bnd (sI s_30 9 t0 6 (Int32.toNatClampNeg v_2) (gI s_30 8 0 0 9)) fun s_31 => F9_parsePea_p142 s_31 t0 v_2) else (some (false, s_30))) else (F9_parsePea_p142 s_18 t0 v_2)) else (some (false, s_14))) else (some (false, s_12))) else (some (false, s_9))) else (some (false, s_7))) else (some (false, s_5))) else (bd (F8_refuseHere σ 6) fun v_32 s_33 => some (v_32, s_33))
set_option maxRecDepth 20000 in
theorem c9_parsePea {l : Launch} {D : va_G} {ad : Nat → Nat → Nat → Nat} {cid : Nat → Nat → Nat → ClassId} (σ : Mem) (t0 : Nat) (ht0 : t0 < 5) : AMF (XC l D ad cid) M9_parsePea 5 eB [.ref (ad 9 t0 0), .ref (ad 8 0 0)] σ (F9_parsePea σ t0) := by
  refine AM.ofW (by decide +kernel) (Nat.le_of_ble_eq_true rfl) (ls := [(0, .ref (ad 9 t0 0)), (1, .ref (ad 8 0 0))]) rfl ?_
  refine aw_entry ?_
  unfold F9_parsePea
  refine aw_aload_n 0 dX9_parsePea_0 rfl rfl ?_
  refine aw_getf (fg_9_7 (by omega)) ci_9 (by decide) w_336 dX9_parsePea_1 ?_
  refine aw_bipush 8 dX9_parsePea_4 (by decide) ?_
  refine aw_icmp_lt 16 dX9_parsePea_6 (by decide) ?_ ?_
  · refine aw_aload_n 1 dX9_parsePea_16 rfl rfl ?_
    refine aw_callVW_U (c8_advance σ ) (io_8 (by decide)) ci_8 (by decide) mk_8_advance w_870 w_871 w_903 rfl rfl (Nat.le_of_ble_eq_true rfl) dX9_parsePea_17 (fun _ s_1 => ?_)
    refine aw_aload_n 0 dX9_parsePea_20 rfl rfl ?_
    refine aw_getf (fg_9_7 (by omega)) ci_9 (by decide) w_336 dX9_parsePea_21 ?_
    refine aw_bnd_int (fun v_2 => ?_)
    refine aw_istore_n (ls' := [(0, .ref (ad 9 t0 0)), (1, .ref (ad 8 0 0)), (2, .int v_2)]) [1, 2, 0] dX9_parsePea_24 rfl (by decide) rfl ?_
    refine aw_aload_n 0 dX9_parsePea_25 rfl rfl ?_
    refine aw_getf (fg_9_8 (by omega)) ci_9 (by decide) w_339 dX9_parsePea_26 ?_
    refine aw_iload_n 2 dX9_parsePea_29 rfl rfl ?_
    refine aw_aload_n 1 dX9_parsePea_30 rfl rfl ?_
    refine aw_getf (fg_8_6 (by decide)) ci_8 (by decide) w_269 dX9_parsePea_31 ?_
    refine aw_lastore (ar_9_3 (by omega)) dX9_parsePea_34 ?_
    refine aw_bndM (fun s_3 => ?_)
    refine aw_aload_n 0 dX9_parsePea_35 rfl rfl ?_
    refine aw_aload_n 1 dX9_parsePea_36 rfl rfl ?_
    refine aw_callVW_B (c9_takeNewName s_3 t0 (by omega)) (io_9 (by omega)) ci_9 (by decide) mk_9_takeNewName w_940 w_12 w_938 rfl rfl (Nat.le_of_ble_eq_true rfl) dX9_parsePea_37 (fun v_4 s_5 => ?_)
    refine aw_bif_eq 62 dX9_parsePea_40 (by decide) ?_ ?_
    · refine aw_iconst 0 dX9_parsePea_62 (by decide) ?_
      exact aw_zreturn (b := false) rfl rfl dX9_parsePea_63
    · refine aw_aload_n 1 dX9_parsePea_43 rfl rfl ?_
      refine aw_bipush 8 dX9_parsePea_44 (by decide) ?_
      refine aw_callVW_B (c8_takeWord s_5 8) (io_8 (by decide)) ci_8 (by decide) mk_8_takeWord w_910 w_911 w_909 rfl rfl (Nat.le_of_ble_eq_true rfl) dX9_parsePea_46 (fun v_6 s_7 => ?_)
      refine aw_bif_eq 62 dX9_parsePea_49 (by decide) ?_ ?_
      · refine aw_iconst 0 dX9_parsePea_62 (by decide) ?_
        exact aw_zreturn (b := false) rfl rfl dX9_parsePea_63
      · refine aw_aload_n 1 dX9_parsePea_52 rfl rfl ?_
        refine aw_iconst 1 dX9_parsePea_53 (by decide) ?_
        refine aw_bipush 12 dX9_parsePea_54 (by decide) ?_
        refine aw_callVW_B (c8_takeNumber s_7 1 12) (io_8 (by decide)) ci_8 (by decide) mk_8_takeNumber w_905 w_906 w_904 rfl rfl (Nat.le_of_ble_eq_true rfl) dX9_parsePea_56 (fun v_8 s_9 => ?_)
        refine aw_bif_ne 64 dX9_parsePea_59 (by decide) ?_ ?_
        · refine aw_aload_n 0 dX9_parsePea_64 rfl rfl ?_
          refine aw_getf (fg_9_9 (by omega)) ci_9 (by decide) w_340 dX9_parsePea_65 ?_
          refine aw_iload_n 2 dX9_parsePea_68 rfl rfl ?_
          refine aw_aload_n 1 dX9_parsePea_69 rfl rfl ?_
          refine aw_getf (fg_8_9 (by decide)) ci_8 (by decide) w_272 dX9_parsePea_70 ?_
          refine aw_iastore (ar_9_4 (by omega)) dX9_parsePea_73 ?_
          refine aw_bndM (fun s_10 => ?_)
          refine aw_aload_n 1 dX9_parsePea_74 rfl rfl ?_
          refine aw_bipush 9 dX9_parsePea_75 (by decide) ?_
          refine aw_callVW_B (c8_takeWord s_10 9) (io_8 (by decide)) ci_8 (by decide) mk_8_takeWord w_910 w_911 w_909 rfl rfl (Nat.le_of_ble_eq_true rfl) dX9_parsePea_77 (fun v_11 s_12 => ?_)
          refine aw_bif_eq 93 dX9_parsePea_80 (by decide) ?_ ?_
          · refine aw_iconst 0 dX9_parsePea_93 (by decide) ?_
            exact aw_zreturn (b := false) rfl rfl dX9_parsePea_94
          · refine aw_aload_n 1 dX9_parsePea_83 rfl rfl ?_
            refine aw_iconst 1 dX9_parsePea_84 (by decide) ?_
            refine aw_bipush 20 dX9_parsePea_85 (by decide) ?_
            refine aw_callVW_B (c8_takeNumber s_12 1 20) (io_8 (by decide)) ci_8 (by decide) mk_8_takeNumber w_905 w_906 w_904 rfl rfl (Nat.le_of_ble_eq_true rfl) dX9_parsePea_87 (fun v_13 s_14 => ?_)
            refine aw_bif_ne 95 dX9_parsePea_90 (by decide) ?_ ?_
            · refine aw_aload_n 0 dX9_parsePea_95 rfl rfl ?_
              refine aw_getf (fg_9_10 (by omega)) ci_9 (by decide) w_342 dX9_parsePea_96 ?_
              refine aw_iload_n 2 dX9_parsePea_99 rfl rfl ?_
              refine aw_aload_n 1 dX9_parsePea_100 rfl rfl ?_
              refine aw_getf (fg_8_9 (by decide)) ci_8 (by decide) w_272 dX9_parsePea_101 ?_
              refine aw_iastore (ar_9_5 (by omega)) dX9_parsePea_104 ?_
              refine aw_bndM (fun s_15 => ?_)
              refine aw_aload_n 0 dX9_parsePea_105 rfl rfl ?_
              refine aw_getf (fg_9_11 (by omega)) ci_9 (by decide) w_345 dX9_parsePea_106 ?_
              refine aw_iload_n 2 dX9_parsePea_109 rfl rfl ?_
              refine aw_iconst 0 dX9_parsePea_110 (by decide) ?_
              refine aw_iastore (ar_9_6 (by omega)) dX9_parsePea_111 ?_
              refine aw_bndM (fun s_16 => ?_)
              refine aw_aload_n 1 dX9_parsePea_112 rfl rfl ?_
              refine aw_bipush 10 dX9_parsePea_113 (by decide) ?_
              refine aw_callVW_B (c8_skipWord s_16 10) (io_8 (by decide)) ci_8 (by decide) mk_8_skipWord w_914 w_915 w_929 rfl rfl (Nat.le_of_ble_eq_true rfl) dX9_parsePea_115 (fun v_17 s_18 => ?_)
              refine aw_bif_eq 142 dX9_parsePea_118 (by decide) ?_ ?_
              · exact c9_parsePea_p142 s_18 t0 (by omega) v_2
              · refine aw_aload_n 1 dX9_parsePea_121 rfl rfl ?_
                refine aw_iconst 0 dX9_parsePea_122 (by decide) ?_
                refine aw_iconst 4 dX9_parsePea_123 (by decide) ?_
                refine aw_callVW_B (c8_takeNumber s_18 0 4) (io_8 (by decide)) ci_8 (by decide) mk_8_takeNumber w_905 w_906 w_904 rfl rfl (Nat.le_of_ble_eq_true rfl) dX9_parsePea_124 (fun v_29 s_30 => ?_)
                refine aw_bif_ne 132 dX9_parsePea_127 (by decide) ?_ ?_
                · refine aw_aload_n 0 dX9_parsePea_132 rfl rfl ?_
                  refine aw_getf (fg_9_11 (by omega)) ci_9 (by decide) w_345 dX9_parsePea_133 ?_
                  refine aw_iload_n 2 dX9_parsePea_136 rfl rfl ?_
                  refine aw_aload_n 1 dX9_parsePea_137 rfl rfl ?_
                  refine aw_getf (fg_8_9 (by decide)) ci_8 (by decide) w_272 dX9_parsePea_138 ?_
                  refine aw_iastore (ar_9_6 (by omega)) dX9_parsePea_141 ?_
                  refine aw_bndM (fun s_31 => ?_)
                  exact c9_parsePea_p142 s_31 t0 (by omega) v_2
                · refine aw_iconst 0 dX9_parsePea_130 (by decide) ?_
                  exact aw_zreturn (b := false) rfl rfl dX9_parsePea_131
            · refine aw_iconst 0 dX9_parsePea_93 (by decide) ?_
              exact aw_zreturn (b := false) rfl rfl dX9_parsePea_94
        · refine aw_iconst 0 dX9_parsePea_62 (by decide) ?_
          exact aw_zreturn (b := false) rfl rfl dX9_parsePea_63
  · refine aw_aload_n 1 dX9_parsePea_9 rfl rfl ?_
    refine aw_bipush 6 dX9_parsePea_10 (by decide) ?_
    refine aw_callVW_B (c8_refuseHere σ 6) (io_8 (by decide)) ci_8 (by decide) mk_8_refuseHere w_900 w_901 w_899 rfl rfl (Nat.le_of_ble_eq_true rfl) dX9_parsePea_12 (fun v_32 s_33 => ?_)
    exact aw_zreturn (b := v_32) rfl rfl dX9_parsePea_15
def F9_parseLean (σ : Mem) (t0 : Nat) (x2 : Int32) : Option (Bool × Mem) :=
  bd (F8_takeNumber σ 0 9) fun v_1 s_2 => if v_1 = true then (chk 6 x2 <| bnd (sI s_2 9 t0 11 (Int32.toNatClampNeg x2) (gI s_2 8 0 0 9)) fun s_3 => bd (F8_takeNumber s_3 0 9) fun v_4 s_5 => if v_4 = true then (bnd (gI s_5 8 0 0 9) fun v_6 => bd (F8_skipWord s_5 16) fun v_7 s_8 => if v_7 = true then (chk 6 x2 <| bnd (sI s_8 9 t0 12 (Int32.toNatClampNeg x2) (-v_6)) fun s_10 => some (true, s_10)) else (chk 6 x2 <| bnd (sI s_8 9 t0 12 (Int32.toNatClampNeg x2) v_6) fun s_9 => some (true, s_9))) else (some (false, s_5))) else (some (false, s_2))
set_option maxRecDepth 20000 in
theorem c9_parseLean {l : Launch} {D : va_G} {ad : Nat → Nat → Nat → Nat} {cid : Nat → Nat → Nat → ClassId} (σ : Mem) (t0 : Nat) (ht0 : t0 < 5) (x2 : Int32) : AMF (XC l D ad cid) M9_parseLean 4 eB [.ref (ad 9 t0 0), .ref (ad 8 0 0), .int x2] σ (F9_parseLean σ t0 x2) := by
  refine AM.ofW (by decide +kernel) (Nat.le_of_ble_eq_true rfl) (ls := [(0, .ref (ad 9 t0 0)), (1, .ref (ad 8 0 0)), (2, .int x2)]) rfl ?_
  refine aw_entry ?_
  unfold F9_parseLean
  refine aw_aload_n 1 dX9_parseLean_0 rfl rfl ?_
  refine aw_iconst 0 dX9_parseLean_1 (by decide) ?_
  refine aw_bipush 9 dX9_parseLean_2 (by decide) ?_
  refine aw_callVW_B (c8_takeNumber σ 0 9) (io_8 (by decide)) ci_8 (by decide) mk_8_takeNumber w_905 w_906 w_904 rfl rfl (Nat.le_of_ble_eq_true rfl) dX9_parseLean_4 (fun v_1 s_2 => ?_)
  refine aw_bif_ne 12 dX9_parseLean_7 (by decide) ?_ ?_
  · refine aw_aload_n 0 dX9_parseLean_12 rfl rfl ?_
    refine aw_getf (fg_9_17 (by omega)) ci_9 (by decide) w_360 dX9_parseLean_13 ?_
    refine aw_iload_n 2 dX9_parseLean_16 rfl rfl ?_
    refine aw_aload_n 1 dX9_parseLean_17 rfl rfl ?_
    refine aw_getf (fg_8_9 (by decide)) ci_8 (by decide) w_272 dX9_parseLean_18 ?_
    refine aw_iastore (ar_9_11 (by omega)) dX9_parseLean_21 ?_
    refine aw_bndM (fun s_3 => ?_)
    refine aw_aload_n 1 dX9_parseLean_22 rfl rfl ?_
    refine aw_iconst 0 dX9_parseLean_23 (by decide) ?_
    refine aw_bipush 9 dX9_parseLean_24 (by decide) ?_
    refine aw_callVW_B (c8_takeNumber s_3 0 9) (io_8 (by decide)) ci_8 (by decide) mk_8_takeNumber w_905 w_906 w_904 rfl rfl (Nat.le_of_ble_eq_true rfl) dX9_parseLean_26 (fun v_4 s_5 => ?_)
    refine aw_bif_ne 34 dX9_parseLean_29 (by decide) ?_ ?_
    · refine aw_aload_n 1 dX9_parseLean_34 rfl rfl ?_
      refine aw_getf (fg_8_9 (by decide)) ci_8 (by decide) w_272 dX9_parseLean_35 ?_
      refine aw_bnd_int (fun v_6 => ?_)
      refine aw_istore_n (ls' := [(0, .ref (ad 9 t0 0)), (1, .ref (ad 8 0 0)), (2, .int x2), (3, .int v_6)]) [1, 2, 3, 0] dX9_parseLean_38 rfl (by decide) rfl ?_
      refine aw_aload_n 0 dX9_parseLean_39 rfl rfl ?_
      refine aw_getf (fg_9_18 (by omega)) ci_9 (by decide) w_363 dX9_parseLean_40 ?_
      refine aw_iload_n 2 dX9_parseLean_43 rfl rfl ?_
      refine aw_aload_n 1 dX9_parseLean_44 rfl rfl ?_
      refine aw_bipush 16 dX9_parseLean_45 (by decide) ?_
      refine aw_callVW_B (c8_skipWord s_5 16) (io_8 (by decide)) ci_8 (by decide) mk_8_skipWord w_914 w_915 w_929 rfl rfl (Nat.le_of_ble_eq_true rfl) dX9_parseLean_47 (fun v_7 s_8 => ?_)
      refine aw_bif_eq 58 dX9_parseLean_50 (by decide) ?_ ?_
      · refine aw_iload_n 3 dX9_parseLean_58 rfl rfl ?_
        refine aw_iastore (ar_9_12 (by omega)) dX9_parseLean_59 ?_
        refine aw_bndM (fun s_9 => ?_)
        refine aw_iconst 1 dX9_parseLean_60 (by decide) ?_
        exact aw_zreturn (b := true) rfl rfl dX9_parseLean_61
      · refine aw_iload_n 3 dX9_parseLean_53 rfl rfl ?_
        refine aw_ineg dX9_parseLean_54 ?_
        refine aw_goto 59 dX9_parseLean_55 (by decide) ?_
        refine aw_iastore (ar_9_12 (by omega)) dX9_parseLean_59 ?_
        refine aw_bndM (fun s_10 => ?_)
        refine aw_iconst 1 dX9_parseLean_60 (by decide) ?_
        exact aw_zreturn (b := true) rfl rfl dX9_parseLean_61
    · refine aw_iconst 0 dX9_parseLean_32 (by decide) ?_
      exact aw_zreturn (b := false) rfl rfl dX9_parseLean_33
  · refine aw_iconst 0 dX9_parseLean_10 (by decide) ?_
    exact aw_zreturn (b := false) rfl rfl dX9_parseLean_11
def F9_parseShooter (σ : Mem) (t0 : Nat) : Option (Bool × Mem) :=
  if (gI σ 9 t0 0 13) < 6 then (bd (F8_advance σ) fun _ s_1 => bnd (gI s_1 9 t0 0 13) fun v_2 => chk 6 v_2 <| bnd (sL s_1 9 t0 8 (Int32.toNatClampNeg v_2) (gL s_1 8 0 0 6)) fun s_3 => bd (F9_takeNewName s_3 t0) fun v_4 s_5 => if v_4 = true then (bd (F8_takeWord s_5 13) fun v_6 s_7 => if v_6 = true then (bd (F8_takeNumber s_7 1 40) fun v_8 s_9 => if v_8 = true then (chk 6 v_2 <| bnd (sI s_9 9 t0 9 (Int32.toNatClampNeg v_2) (gI s_9 8 0 0 9)) fun s_10 => bd (F8_takeWord s_10 14) fun v_11 s_12 => if v_11 = true then (bd (F8_takeNumber s_12 0 6) fun v_13 s_14 => if v_13 = true then (chk 6 v_2 <| bnd (sI s_14 9 t0 10 (Int32.toNatClampNeg v_2) (gI s_14 8 0 0 9)) fun s_15 => chk 6 v_2 <| bnd (sI s_15 9 t0 11 (Int32.toNatClampNeg v_2) 0) fun s_16 => chk 6 v_2 <| bnd (sI s_16 9 t0 12 (Int32.toNatClampNeg v_2) 0) fun s_17 => bd (F8_skipWord s_17 15) fun v_18 s_19 => if v_18 = true then (bd (F9_parseLean s_19 t0 v_2) fun v_23 s_24 => if v_23 = true then (bnd (sI s_24 9 t0 0 13 ((gI s_24 9 t0 0 13) + 1)) fun s_25 => bd (F8_takeSemicolon s_25) fun v_26 s_27 => some (v_26, s_27)) else (some (false, s_24))) else (bnd (sI s_19 9 t0 0 13 ((gI s_19 9 t0 0 13) + 1)) fun s_20 => bd (F8_takeSemicolon s_20) fun v_21 s_22 => some (v_21, s_22))) else (some (false, s_14))) else (some (false, s_12))) else (some (false, s_9))) else (some (false, s_7))) else (some (false, s_5))) else (bd (F8_refuseHere σ 6) fun v_28 s_29 => some (v_28, s_29))
set_option maxRecDepth 20000 in
theorem c9_parseShooter {l : Launch} {D : va_G} {ad : Nat → Nat → Nat → Nat} {cid : Nat → Nat → Nat → ClassId} (σ : Mem) (t0 : Nat) (ht0 : t0 < 5) : AMF (XC l D ad cid) M9_parseShooter 5 eB [.ref (ad 9 t0 0), .ref (ad 8 0 0)] σ (F9_parseShooter σ t0) := by
  refine AM.ofW (by decide +kernel) (Nat.le_of_ble_eq_true rfl) (ls := [(0, .ref (ad 9 t0 0)), (1, .ref (ad 8 0 0))]) rfl ?_
  refine aw_entry ?_
  unfold F9_parseShooter
  refine aw_aload_n 0 dX9_parseShooter_0 rfl rfl ?_
  refine aw_getf (fg_9_13 (by omega)) ci_9 (by decide) w_351 dX9_parseShooter_1 ?_
  refine aw_bipush 6 dX9_parseShooter_4 (by decide) ?_
  refine aw_icmp_lt 16 dX9_parseShooter_6 (by decide) ?_ ?_
  · refine aw_aload_n 1 dX9_parseShooter_16 rfl rfl ?_
    refine aw_callVW_U (c8_advance σ ) (io_8 (by decide)) ci_8 (by decide) mk_8_advance w_870 w_871 w_903 rfl rfl (Nat.le_of_ble_eq_true rfl) dX9_parseShooter_17 (fun _ s_1 => ?_)
    refine aw_aload_n 0 dX9_parseShooter_20 rfl rfl ?_
    refine aw_getf (fg_9_13 (by omega)) ci_9 (by decide) w_351 dX9_parseShooter_21 ?_
    refine aw_bnd_int (fun v_2 => ?_)
    refine aw_istore_n (ls' := [(0, .ref (ad 9 t0 0)), (1, .ref (ad 8 0 0)), (2, .int v_2)]) [1, 2, 0] dX9_parseShooter_24 rfl (by decide) rfl ?_
    refine aw_aload_n 0 dX9_parseShooter_25 rfl rfl ?_
    refine aw_getf (fg_9_14 (by omega)) ci_9 (by decide) w_354 dX9_parseShooter_26 ?_
    refine aw_iload_n 2 dX9_parseShooter_29 rfl rfl ?_
    refine aw_aload_n 1 dX9_parseShooter_30 rfl rfl ?_
    refine aw_getf (fg_8_6 (by decide)) ci_8 (by decide) w_269 dX9_parseShooter_31 ?_
    refine aw_lastore (ar_9_8 (by omega)) dX9_parseShooter_34 ?_
    refine aw_bndM (fun s_3 => ?_)
    refine aw_aload_n 0 dX9_parseShooter_35 rfl rfl ?_
    refine aw_aload_n 1 dX9_parseShooter_36 rfl rfl ?_
    refine aw_callVW_B (c9_takeNewName s_3 t0 (by omega)) (io_9 (by omega)) ci_9 (by decide) mk_9_takeNewName w_940 w_12 w_938 rfl rfl (Nat.le_of_ble_eq_true rfl) dX9_parseShooter_37 (fun v_4 s_5 => ?_)
    refine aw_bif_eq 62 dX9_parseShooter_40 (by decide) ?_ ?_
    · refine aw_iconst 0 dX9_parseShooter_62 (by decide) ?_
      exact aw_zreturn (b := false) rfl rfl dX9_parseShooter_63
    · refine aw_aload_n 1 dX9_parseShooter_43 rfl rfl ?_
      refine aw_bipush 13 dX9_parseShooter_44 (by decide) ?_
      refine aw_callVW_B (c8_takeWord s_5 13) (io_8 (by decide)) ci_8 (by decide) mk_8_takeWord w_910 w_911 w_909 rfl rfl (Nat.le_of_ble_eq_true rfl) dX9_parseShooter_46 (fun v_6 s_7 => ?_)
      refine aw_bif_eq 62 dX9_parseShooter_49 (by decide) ?_ ?_
      · refine aw_iconst 0 dX9_parseShooter_62 (by decide) ?_
        exact aw_zreturn (b := false) rfl rfl dX9_parseShooter_63
      · refine aw_aload_n 1 dX9_parseShooter_52 rfl rfl ?_
        refine aw_iconst 1 dX9_parseShooter_53 (by decide) ?_
        refine aw_bipush 40 dX9_parseShooter_54 (by decide) ?_
        refine aw_callVW_B (c8_takeNumber s_7 1 40) (io_8 (by decide)) ci_8 (by decide) mk_8_takeNumber w_905 w_906 w_904 rfl rfl (Nat.le_of_ble_eq_true rfl) dX9_parseShooter_56 (fun v_8 s_9 => ?_)
        refine aw_bif_ne 64 dX9_parseShooter_59 (by decide) ?_ ?_
        · refine aw_aload_n 0 dX9_parseShooter_64 rfl rfl ?_
          refine aw_getf (fg_9_15 (by omega)) ci_9 (by decide) w_355 dX9_parseShooter_65 ?_
          refine aw_iload_n 2 dX9_parseShooter_68 rfl rfl ?_
          refine aw_aload_n 1 dX9_parseShooter_69 rfl rfl ?_
          refine aw_getf (fg_8_9 (by decide)) ci_8 (by decide) w_272 dX9_parseShooter_70 ?_
          refine aw_iastore (ar_9_9 (by omega)) dX9_parseShooter_73 ?_
          refine aw_bndM (fun s_10 => ?_)
          refine aw_aload_n 1 dX9_parseShooter_74 rfl rfl ?_
          refine aw_bipush 14 dX9_parseShooter_75 (by decide) ?_
          refine aw_callVW_B (c8_takeWord s_10 14) (io_8 (by decide)) ci_8 (by decide) mk_8_takeWord w_910 w_911 w_909 rfl rfl (Nat.le_of_ble_eq_true rfl) dX9_parseShooter_77 (fun v_11 s_12 => ?_)
          refine aw_bif_eq 93 dX9_parseShooter_80 (by decide) ?_ ?_
          · refine aw_iconst 0 dX9_parseShooter_93 (by decide) ?_
            exact aw_zreturn (b := false) rfl rfl dX9_parseShooter_94
          · refine aw_aload_n 1 dX9_parseShooter_83 rfl rfl ?_
            refine aw_iconst 0 dX9_parseShooter_84 (by decide) ?_
            refine aw_bipush 6 dX9_parseShooter_85 (by decide) ?_
            refine aw_callVW_B (c8_takeNumber s_12 0 6) (io_8 (by decide)) ci_8 (by decide) mk_8_takeNumber w_905 w_906 w_904 rfl rfl (Nat.le_of_ble_eq_true rfl) dX9_parseShooter_87 (fun v_13 s_14 => ?_)
            refine aw_bif_ne 95 dX9_parseShooter_90 (by decide) ?_ ?_
            · refine aw_aload_n 0 dX9_parseShooter_95 rfl rfl ?_
              refine aw_getf (fg_9_16 (by omega)) ci_9 (by decide) w_358 dX9_parseShooter_96 ?_
              refine aw_iload_n 2 dX9_parseShooter_99 rfl rfl ?_
              refine aw_aload_n 1 dX9_parseShooter_100 rfl rfl ?_
              refine aw_getf (fg_8_9 (by decide)) ci_8 (by decide) w_272 dX9_parseShooter_101 ?_
              refine aw_iastore (ar_9_10 (by omega)) dX9_parseShooter_104 ?_
              refine aw_bndM (fun s_15 => ?_)
              refine aw_aload_n 0 dX9_parseShooter_105 rfl rfl ?_
              refine aw_getf (fg_9_17 (by omega)) ci_9 (by decide) w_360 dX9_parseShooter_106 ?_
              refine aw_iload_n 2 dX9_parseShooter_109 rfl rfl ?_
              refine aw_iconst 0 dX9_parseShooter_110 (by decide) ?_
              refine aw_iastore (ar_9_11 (by omega)) dX9_parseShooter_111 ?_
              refine aw_bndM (fun s_16 => ?_)
              refine aw_aload_n 0 dX9_parseShooter_112 rfl rfl ?_
              refine aw_getf (fg_9_18 (by omega)) ci_9 (by decide) w_363 dX9_parseShooter_113 ?_
              refine aw_iload_n 2 dX9_parseShooter_116 rfl rfl ?_
              refine aw_iconst 0 dX9_parseShooter_117 (by decide) ?_
              refine aw_iastore (ar_9_12 (by omega)) dX9_parseShooter_118 ?_
              refine aw_bndM (fun s_17 => ?_)
              refine aw_aload_n 1 dX9_parseShooter_119 rfl rfl ?_
              refine aw_bipush 15 dX9_parseShooter_120 (by decide) ?_
              refine aw_callVW_B (c8_skipWord s_17 15) (io_8 (by decide)) ci_8 (by decide) mk_8_skipWord w_914 w_915 w_929 rfl rfl (Nat.le_of_ble_eq_true rfl) dX9_parseShooter_122 (fun v_18 s_19 => ?_)
              refine aw_bif_eq 139 dX9_parseShooter_125 (by decide) ?_ ?_
              · refine aw_aload_n 0 dX9_parseShooter_139 rfl rfl ?_
                refine aw_dup dX9_parseShooter_140 rfl ?_
                refine aw_getf (fg_9_13 (by omega)) ci_9 (by decide) w_351 dX9_parseShooter_141 ?_
                refine aw_iconst 1 dX9_parseShooter_144 (by decide) ?_
                refine aw_iadd dX9_parseShooter_145 ?_
                refine aw_putI (fs_9_13 (by omega)) ci_9 (by decide) rfl rfl w_351 dX9_parseShooter_146 ?_
                refine aw_bndM (fun s_20 => ?_)
                refine aw_aload_n 1 dX9_parseShooter_149 rfl rfl ?_
                refine aw_callVW_B (c8_takeSemicolon s_20 ) (io_8 (by decide)) ci_8 (by decide) mk_8_takeSemicolon w_918 w_919 w_917 rfl rfl (Nat.le_of_ble_eq_true rfl) dX9_parseShooter_150 (fun v_21 s_22 => ?_)
                exact aw_zreturn (b := v_21) rfl rfl dX9_parseShooter_153
              · refine aw_aload_n 0 dX9_parseShooter_128 rfl rfl ?_
                refine aw_aload_n 1 dX9_parseShooter_129 rfl rfl ?_
                refine aw_iload_n 2 dX9_parseShooter_130 rfl rfl ?_
                refine aw_callVW_B (c9_parseLean s_19 t0 (by omega) v_2) (io_9 (by omega)) ci_9 (by decide) mk_9_parseLean w_960 w_14 w_958 rfl rfl (Nat.le_of_ble_eq_true rfl) dX9_parseShooter_131 (fun v_23 s_24 => ?_)
                refine aw_bif_ne 139 dX9_parseShooter_134 (by decide) ?_ ?_
                · refine aw_aload_n 0 dX9_parseShooter_139 rfl rfl ?_
                  refine aw_dup dX9_parseShooter_140 rfl ?_
                  refine aw_getf (fg_9_13 (by omega)) ci_9 (by decide) w_351 dX9_parseShooter_141 ?_
                  refine aw_iconst 1 dX9_parseShooter_144 (by decide) ?_
                  refine aw_iadd dX9_parseShooter_145 ?_
                  refine aw_putI (fs_9_13 (by omega)) ci_9 (by decide) rfl rfl w_351 dX9_parseShooter_146 ?_
                  refine aw_bndM (fun s_25 => ?_)
                  refine aw_aload_n 1 dX9_parseShooter_149 rfl rfl ?_
                  refine aw_callVW_B (c8_takeSemicolon s_25 ) (io_8 (by decide)) ci_8 (by decide) mk_8_takeSemicolon w_918 w_919 w_917 rfl rfl (Nat.le_of_ble_eq_true rfl) dX9_parseShooter_150 (fun v_26 s_27 => ?_)
                  exact aw_zreturn (b := v_26) rfl rfl dX9_parseShooter_153
                · refine aw_iconst 0 dX9_parseShooter_137 (by decide) ?_
                  exact aw_zreturn (b := false) rfl rfl dX9_parseShooter_138
            · refine aw_iconst 0 dX9_parseShooter_93 (by decide) ?_
              exact aw_zreturn (b := false) rfl rfl dX9_parseShooter_94
        · refine aw_iconst 0 dX9_parseShooter_62 (by decide) ?_
          exact aw_zreturn (b := false) rfl rfl dX9_parseShooter_63
  · refine aw_aload_n 1 dX9_parseShooter_9 rfl rfl ?_
    refine aw_bipush 6 dX9_parseShooter_10 (by decide) ?_
    refine aw_callVW_B (c8_refuseHere σ 6) (io_8 (by decide)) ci_8 (by decide) mk_8_refuseHere w_900 w_901 w_899 rfl rfl (Nat.le_of_ble_eq_true rfl) dX9_parseShooter_12 (fun v_28 s_29 => ?_)
    exact aw_zreturn (b := v_28) rfl rfl dX9_parseShooter_15
def F9_parse_p152 (rc : Mem → Int32 → Option (Bool × Mem)) (σ : Mem) (t0 : Nat) (x2 : Int32) (z3 : Bool) : Option (Bool × Mem) :=
  if z3 = true then (rc σ (x2 + 1)) else (some (false, σ))
set_option maxRecDepth 20000 in
theorem c9_parse_p152 {l : Launch} {D : va_G} {ad : Nat → Nat → Nat → Nat} {cid : Nat → Nat → Nat → ClassId}  (t0 : Nat) (ht0 : t0 < 5) {rc : Mem → Int32 → Option (Bool × Mem)} (ih : ∀ (σ : Mem) (x2 : Int32), AW (XC l D ad cid) M9_parse 6 eB [(0, .ref (ad 9 t0 0)), (1, .ref (ad 8 0 0)), (2, .int x2)] 6 [] σ ((rc σ x2).bind some)) (σ : Mem) (x2 : Int32) (z3 : Bool) : AW (XC l D ad cid) M9_parse 6 eB [(0, .ref (ad 9 t0 0)), (1, .ref (ad 8 0 0)), (2, .int x2), (3, .int (b2i z3))] 152 [] σ ((F9_parse_p152 rc σ t0 x2 z3).bind some) := by
  unfold F9_parse_p152
  refine aw_iload_n 3 dX9_parse_152 rfl rfl ?_
  refine aw_bif_ne 158 dX9_parse_153 (by decide) ?_ ?_
  · refine aw_iinc (ls' := [(0, .ref (ad 9 t0 0)), (1, .ref (ad 8 0 0)), (2, .int (x2 + 1))]) (x2 + 1) 2 [1, 2, 0] dX9_parse_158 rfl (by rfl) (by decide) rfl ?_
    refine aw_goto 6 dX9_parse_161 (by decide) ?_
    exact ih σ (x2 + 1)
  · refine aw_iconst 0 dX9_parse_156 (by decide) ?_
    exact aw_zreturn (b := false) rfl rfl dX9_parse_157
def F9_parse_L6 (t0 : Nat) : Nat → Mem → Int32 → Option (Bool × Mem)
  | 0 => fun _ _ => none
  | n + 1 => fun σ x2 =>
    if 900 ≤ x2 then (some (true, σ)) else (if (gI σ 8 0 0 4) = 0 then (some (true, σ)) else (if (gI σ 8 0 0 5) = 0 then (bd (F9_parseTube σ t0) fun v_3 s_4 => F9_parse_p152 (F9_parse_L6 t0 n) s_4 t0 x2 v_3) else if (gI σ 8 0 0 5) = 1 then (bd (F8_refuseHere σ 2) fun v_6 s_7 => F9_parse_p152 (F9_parse_L6 t0 n) s_7 t0 x2 v_6) else if (gI σ 8 0 0 5) = 2 then (bd (F9_parseFar σ t0) fun v_9 s_10 => F9_parse_p152 (F9_parse_L6 t0 n) s_10 t0 x2 v_9) else if (gI σ 8 0 0 5) = 3 then (bd (F9_parseWind σ t0) fun v_12 s_13 => F9_parse_p152 (F9_parse_L6 t0 n) s_13 t0 x2 v_12) else if (gI σ 8 0 0 5) = 4 then (bd (F8_refuseHere σ 2) fun v_15 s_16 => F9_parse_p152 (F9_parse_L6 t0 n) s_16 t0 x2 v_15) else if (gI σ 8 0 0 5) = 5 then (bd (F9_parseRing σ t0) fun v_18 s_19 => F9_parse_p152 (F9_parse_L6 t0 n) s_19 t0 x2 v_18) else if (gI σ 8 0 0 5) = 6 then (bd (F8_refuseHere σ 2) fun v_21 s_22 => F9_parse_p152 (F9_parse_L6 t0 n) s_22 t0 x2 v_21) else if (gI σ 8 0 0 5) = 7 then (bd (F9_parsePea σ t0) fun v_24 s_25 => F9_parse_p152 (F9_parse_L6 t0 n) s_25 t0 x2 v_24) else if (gI σ 8 0 0 5) = 8 then (bd (F8_refuseHere σ 2) fun v_27 s_28 => F9_parse_p152 (F9_parse_L6 t0 n) s_28 t0 x2 v_27) else if (gI σ 8 0 0 5) = 9 then (bd (F8_refuseHere σ 2) fun v_30 s_31 => F9_parse_p152 (F9_parse_L6 t0 n) s_31 t0 x2 v_30) else if (gI σ 8 0 0 5) = 10 then (bd (F8_refuseHere σ 2) fun v_33 s_34 => F9_parse_p152 (F9_parse_L6 t0 n) s_34 t0 x2 v_33) else if (gI σ 8 0 0 5) = 11 then (bd (F8_refuseHere σ 2) fun v_36 s_37 => F9_parse_p152 (F9_parse_L6 t0 n) s_37 t0 x2 v_36) else if (gI σ 8 0 0 5) = 12 then (bd (F9_parseShooter σ t0) fun v_39 s_40 => F9_parse_p152 (F9_parse_L6 t0 n) s_40 t0 x2 v_39) else (bd (F8_refuseHere σ 2) fun v_41 s_42 => F9_parse_p152 (F9_parse_L6 t0 n) s_42 t0 x2 v_41)))
set_option maxRecDepth 20000 in
theorem c9_parse_L6 {l : Launch} {D : va_G} {ad : Nat → Nat → Nat → Nat} {cid : Nat → Nat → Nat → ClassId} (t0 : Nat) (ht0 : t0 < 5) : ∀ (n : Nat) (σ : Mem) (x2 : Int32), AW (XC l D ad cid) M9_parse 6 eB [(0, .ref (ad 9 t0 0)), (1, .ref (ad 8 0 0)), (2, .int x2)] 6 [] σ ((F9_parse_L6 t0 n σ x2).bind some) := by
  intro n
  induction n with
  | zero => intros; exact aw_none
  | succ n ih =>
    intro σ x2
    rw [F9_parse_L6.eq_2]
    refine aw_iload_n 2 dX9_parse_6 rfl rfl ?_
    refine aw_sipush 900 dX9_parse_7 (by decide) ?_
    refine aw_icmp_ge 164 dX9_parse_10 (by decide) ?_ ?_
    · refine aw_iconst 1 dX9_parse_164 (by decide) ?_
      exact aw_zreturn (b := true) rfl rfl dX9_parse_165
    · refine aw_aload_n 1 dX9_parse_13 rfl rfl ?_
      refine aw_getf (fg_8_4 (by decide)) ci_8 (by decide) w_262 dX9_parse_14 ?_
      refine aw_if_eq 164 dX9_parse_17 (by decide) ?_ ?_
      · refine aw_iconst 1 dX9_parse_164 (by decide) ?_
        exact aw_zreturn (b := true) rfl rfl dX9_parse_165
      · refine aw_aload_n 1 dX9_parse_20 rfl rfl ?_
        refine aw_getf (fg_8_5 (by decide)) ci_8 (by decide) w_264 dX9_parse_21 ?_
        refine aw_case (c := 0) (fun h_2 => ?_) (fun h_2 => ?_)
        · refine aw_tabIn 92 h_2 dX9_parse_24 (by decide) (by decide) rfl (by decide) ?_
          refine aw_aload_n 0 dX9_parse_92 rfl rfl ?_
          refine aw_aload_n 1 dX9_parse_93 rfl rfl ?_
          refine aw_callVW_B (c9_parseTube σ t0 (by omega)) (io_9 (by omega)) ci_9 (by decide) mk_9_parseTube w_893 w_6 w_891 rfl rfl (Nat.le_of_ble_eq_true rfl) dX9_parse_94 (fun v_3 s_4 => ?_)
          refine aw_istore_n (ls' := [(0, .ref (ad 9 t0 0)), (1, .ref (ad 8 0 0)), (2, .int x2), (3, .int (b2i v_3))]) [1, 2, 3, 0] dX9_parse_97 rfl (by decide) rfl ?_
          refine aw_goto 152 dX9_parse_98 (by decide) ?_
          exact c9_parse_p152 t0 ht0 ih s_4 x2 v_3
        refine aw_case (c := 1) (fun h_5 => ?_) (fun h_5 => ?_)
        · refine aw_tabIn 146 h_5 dX9_parse_24 (by decide) (by decide) rfl (by decide) ?_
          refine aw_aload_n 1 dX9_parse_146 rfl rfl ?_
          refine aw_iconst 2 dX9_parse_147 (by decide) ?_
          refine aw_callVW_B (c8_refuseHere σ 2) (io_8 (by decide)) ci_8 (by decide) mk_8_refuseHere w_900 w_901 w_899 rfl rfl (Nat.le_of_ble_eq_true rfl) dX9_parse_148 (fun v_6 s_7 => ?_)
          refine aw_istore_n (ls' := [(0, .ref (ad 9 t0 0)), (1, .ref (ad 8 0 0)), (2, .int x2), (3, .int (b2i v_6))]) [1, 2, 3, 0] dX9_parse_151 rfl (by decide) rfl ?_
          exact c9_parse_p152 t0 ht0 ih s_7 x2 v_6
        refine aw_case (c := 2) (fun h_8 => ?_) (fun h_8 => ?_)
        · refine aw_tabIn 101 h_8 dX9_parse_24 (by decide) (by decide) rfl (by decide) ?_
          refine aw_aload_n 0 dX9_parse_101 rfl rfl ?_
          refine aw_aload_n 1 dX9_parse_102 rfl rfl ?_
          refine aw_callVW_B (c9_parseFar σ t0 (by omega)) (io_9 (by omega)) ci_9 (by decide) mk_9_parseFar w_923 w_8 w_921 rfl rfl (Nat.le_of_ble_eq_true rfl) dX9_parse_103 (fun v_9 s_10 => ?_)
          refine aw_istore_n (ls' := [(0, .ref (ad 9 t0 0)), (1, .ref (ad 8 0 0)), (2, .int x2), (3, .int (b2i v_9))]) [1, 2, 3, 0] dX9_parse_106 rfl (by decide) rfl ?_
          refine aw_goto 152 dX9_parse_107 (by decide) ?_
          exact c9_parse_p152 t0 ht0 ih s_10 x2 v_9
        refine aw_case (c := 3) (fun h_11 => ?_) (fun h_11 => ?_)
        · refine aw_tabIn 110 h_11 dX9_parse_24 (by decide) (by decide) rfl (by decide) ?_
          refine aw_aload_n 0 dX9_parse_110 rfl rfl ?_
          refine aw_aload_n 1 dX9_parse_111 rfl rfl ?_
          refine aw_callVW_B (c9_parseWind σ t0 (by omega)) (io_9 (by omega)) ci_9 (by decide) mk_9_parseWind w_927 w_9 w_925 rfl rfl (Nat.le_of_ble_eq_true rfl) dX9_parse_112 (fun v_12 s_13 => ?_)
          refine aw_istore_n (ls' := [(0, .ref (ad 9 t0 0)), (1, .ref (ad 8 0 0)), (2, .int x2), (3, .int (b2i v_12))]) [1, 2, 3, 0] dX9_parse_115 rfl (by decide) rfl ?_
          refine aw_goto 152 dX9_parse_116 (by decide) ?_
          exact c9_parse_p152 t0 ht0 ih s_13 x2 v_12
        refine aw_case (c := 4) (fun h_14 => ?_) (fun h_14 => ?_)
        · refine aw_tabIn 146 h_14 dX9_parse_24 (by decide) (by decide) rfl (by decide) ?_
          refine aw_aload_n 1 dX9_parse_146 rfl rfl ?_
          refine aw_iconst 2 dX9_parse_147 (by decide) ?_
          refine aw_callVW_B (c8_refuseHere σ 2) (io_8 (by decide)) ci_8 (by decide) mk_8_refuseHere w_900 w_901 w_899 rfl rfl (Nat.le_of_ble_eq_true rfl) dX9_parse_148 (fun v_15 s_16 => ?_)
          refine aw_istore_n (ls' := [(0, .ref (ad 9 t0 0)), (1, .ref (ad 8 0 0)), (2, .int x2), (3, .int (b2i v_15))]) [1, 2, 3, 0] dX9_parse_151 rfl (by decide) rfl ?_
          exact c9_parse_p152 t0 ht0 ih s_16 x2 v_15
        refine aw_case (c := 5) (fun h_17 => ?_) (fun h_17 => ?_)
        · refine aw_tabIn 119 h_17 dX9_parse_24 (by decide) (by decide) rfl (by decide) ?_
          refine aw_aload_n 0 dX9_parse_119 rfl rfl ?_
          refine aw_aload_n 1 dX9_parse_120 rfl rfl ?_
          refine aw_callVW_B (c9_parseRing σ t0 (by omega)) (io_9 (by omega)) ci_9 (by decide) mk_9_parseRing w_932 w_10 w_930 rfl rfl (Nat.le_of_ble_eq_true rfl) dX9_parse_121 (fun v_18 s_19 => ?_)
          refine aw_istore_n (ls' := [(0, .ref (ad 9 t0 0)), (1, .ref (ad 8 0 0)), (2, .int x2), (3, .int (b2i v_18))]) [1, 2, 3, 0] dX9_parse_124 rfl (by decide) rfl ?_
          refine aw_goto 152 dX9_parse_125 (by decide) ?_
          exact c9_parse_p152 t0 ht0 ih s_19 x2 v_18
        refine aw_case (c := 6) (fun h_20 => ?_) (fun h_20 => ?_)
        · refine aw_tabIn 146 h_20 dX9_parse_24 (by decide) (by decide) rfl (by decide) ?_
          refine aw_aload_n 1 dX9_parse_146 rfl rfl ?_
          refine aw_iconst 2 dX9_parse_147 (by decide) ?_
          refine aw_callVW_B (c8_refuseHere σ 2) (io_8 (by decide)) ci_8 (by decide) mk_8_refuseHere w_900 w_901 w_899 rfl rfl (Nat.le_of_ble_eq_true rfl) dX9_parse_148 (fun v_21 s_22 => ?_)
          refine aw_istore_n (ls' := [(0, .ref (ad 9 t0 0)), (1, .ref (ad 8 0 0)), (2, .int x2), (3, .int (b2i v_21))]) [1, 2, 3, 0] dX9_parse_151 rfl (by decide) rfl ?_
          exact c9_parse_p152 t0 ht0 ih s_22 x2 v_21
        refine aw_case (c := 7) (fun h_23 => ?_) (fun h_23 => ?_)
        · refine aw_tabIn 128 h_23 dX9_parse_24 (by decide) (by decide) rfl (by decide) ?_
          refine aw_aload_n 0 dX9_parse_128 rfl rfl ?_
          refine aw_aload_n 1 dX9_parse_129 rfl rfl ?_
          refine aw_callVW_B (c9_parsePea σ t0 (by omega)) (io_9 (by omega)) ci_9 (by decide) mk_9_parsePea w_936 w_11 w_934 rfl rfl (Nat.le_of_ble_eq_true rfl) dX9_parse_130 (fun v_24 s_25 => ?_)
          refine aw_istore_n (ls' := [(0, .ref (ad 9 t0 0)), (1, .ref (ad 8 0 0)), (2, .int x2), (3, .int (b2i v_24))]) [1, 2, 3, 0] dX9_parse_133 rfl (by decide) rfl ?_
          refine aw_goto 152 dX9_parse_134 (by decide) ?_
          exact c9_parse_p152 t0 ht0 ih s_25 x2 v_24
        refine aw_case (c := 8) (fun h_26 => ?_) (fun h_26 => ?_)
        · refine aw_tabIn 146 h_26 dX9_parse_24 (by decide) (by decide) rfl (by decide) ?_
          refine aw_aload_n 1 dX9_parse_146 rfl rfl ?_
          refine aw_iconst 2 dX9_parse_147 (by decide) ?_
          refine aw_callVW_B (c8_refuseHere σ 2) (io_8 (by decide)) ci_8 (by decide) mk_8_refuseHere w_900 w_901 w_899 rfl rfl (Nat.le_of_ble_eq_true rfl) dX9_parse_148 (fun v_27 s_28 => ?_)
          refine aw_istore_n (ls' := [(0, .ref (ad 9 t0 0)), (1, .ref (ad 8 0 0)), (2, .int x2), (3, .int (b2i v_27))]) [1, 2, 3, 0] dX9_parse_151 rfl (by decide) rfl ?_
          exact c9_parse_p152 t0 ht0 ih s_28 x2 v_27
        refine aw_case (c := 9) (fun h_29 => ?_) (fun h_29 => ?_)
        · refine aw_tabIn 146 h_29 dX9_parse_24 (by decide) (by decide) rfl (by decide) ?_
          refine aw_aload_n 1 dX9_parse_146 rfl rfl ?_
          refine aw_iconst 2 dX9_parse_147 (by decide) ?_
          refine aw_callVW_B (c8_refuseHere σ 2) (io_8 (by decide)) ci_8 (by decide) mk_8_refuseHere w_900 w_901 w_899 rfl rfl (Nat.le_of_ble_eq_true rfl) dX9_parse_148 (fun v_30 s_31 => ?_)
          refine aw_istore_n (ls' := [(0, .ref (ad 9 t0 0)), (1, .ref (ad 8 0 0)), (2, .int x2), (3, .int (b2i v_30))]) [1, 2, 3, 0] dX9_parse_151 rfl (by decide) rfl ?_
          exact c9_parse_p152 t0 ht0 ih s_31 x2 v_30
        refine aw_case (c := 10) (fun h_32 => ?_) (fun h_32 => ?_)
        · refine aw_tabIn 146 h_32 dX9_parse_24 (by decide) (by decide) rfl (by decide) ?_
          refine aw_aload_n 1 dX9_parse_146 rfl rfl ?_
          refine aw_iconst 2 dX9_parse_147 (by decide) ?_
          refine aw_callVW_B (c8_refuseHere σ 2) (io_8 (by decide)) ci_8 (by decide) mk_8_refuseHere w_900 w_901 w_899 rfl rfl (Nat.le_of_ble_eq_true rfl) dX9_parse_148 (fun v_33 s_34 => ?_)
          refine aw_istore_n (ls' := [(0, .ref (ad 9 t0 0)), (1, .ref (ad 8 0 0)), (2, .int x2), (3, .int (b2i v_33))]) [1, 2, 3, 0] dX9_parse_151 rfl (by decide) rfl ?_
          exact c9_parse_p152 t0 ht0 ih s_34 x2 v_33
        refine aw_case (c := 11) (fun h_35 => ?_) (fun h_35 => ?_)
        · refine aw_tabIn 146 h_35 dX9_parse_24 (by decide) (by decide) rfl (by decide) ?_
          refine aw_aload_n 1 dX9_parse_146 rfl rfl ?_
          refine aw_iconst 2 dX9_parse_147 (by decide) ?_
          refine aw_callVW_B (c8_refuseHere σ 2) (io_8 (by decide)) ci_8 (by decide) mk_8_refuseHere w_900 w_901 w_899 rfl rfl (Nat.le_of_ble_eq_true rfl) dX9_parse_148 (fun v_36 s_37 => ?_)
          refine aw_istore_n (ls' := [(0, .ref (ad 9 t0 0)), (1, .ref (ad 8 0 0)), (2, .int x2), (3, .int (b2i v_36))]) [1, 2, 3, 0] dX9_parse_151 rfl (by decide) rfl ?_
          exact c9_parse_p152 t0 ht0 ih s_37 x2 v_36
        refine aw_case (c := 12) (fun h_38 => ?_) (fun h_38 => ?_)
        · refine aw_tabIn 137 h_38 dX9_parse_24 (by decide) (by decide) rfl (by decide) ?_
          refine aw_aload_n 0 dX9_parse_137 rfl rfl ?_
          refine aw_aload_n 1 dX9_parse_138 rfl rfl ?_
          refine aw_callVW_B (c9_parseShooter σ t0 (by omega)) (io_9 (by omega)) ci_9 (by decide) mk_9_parseShooter w_956 w_13 w_954 rfl rfl (Nat.le_of_ble_eq_true rfl) dX9_parse_139 (fun v_39 s_40 => ?_)
          refine aw_istore_n (ls' := [(0, .ref (ad 9 t0 0)), (1, .ref (ad 8 0 0)), (2, .int x2), (3, .int (b2i v_39))]) [1, 2, 3, 0] dX9_parse_142 rfl (by decide) rfl ?_
          refine aw_goto 152 dX9_parse_143 (by decide) ?_
          exact c9_parse_p152 t0 ht0 ih s_40 x2 v_39
        refine aw_tabOut 146 dX9_parse_24 (by have eh_2 : (gI σ 8 0 0 5).toInt ≠ 0 := ne_toInt h_2; have eh_5 : (gI σ 8 0 0 5).toInt ≠ 1 := ne_toInt h_5; have eh_8 : (gI σ 8 0 0 5).toInt ≠ 2 := ne_toInt h_8; have eh_11 : (gI σ 8 0 0 5).toInt ≠ 3 := ne_toInt h_11; have eh_14 : (gI σ 8 0 0 5).toInt ≠ 4 := ne_toInt h_14; have eh_17 : (gI σ 8 0 0 5).toInt ≠ 5 := ne_toInt h_17; have eh_20 : (gI σ 8 0 0 5).toInt ≠ 6 := ne_toInt h_20; have eh_23 : (gI σ 8 0 0 5).toInt ≠ 7 := ne_toInt h_23; have eh_26 : (gI σ 8 0 0 5).toInt ≠ 8 := ne_toInt h_26; have eh_29 : (gI σ 8 0 0 5).toInt ≠ 9 := ne_toInt h_29; have eh_32 : (gI σ 8 0 0 5).toInt ≠ 10 := ne_toInt h_32; have eh_35 : (gI σ 8 0 0 5).toInt ≠ 11 := ne_toInt h_35; have eh_38 : (gI σ 8 0 0 5).toInt ≠ 12 := ne_toInt h_38; omega) (by decide) ?_
        refine aw_aload_n 1 dX9_parse_146 rfl rfl ?_
        refine aw_iconst 2 dX9_parse_147 (by decide) ?_
        refine aw_callVW_B (c8_refuseHere σ 2) (io_8 (by decide)) ci_8 (by decide) mk_8_refuseHere w_900 w_901 w_899 rfl rfl (Nat.le_of_ble_eq_true rfl) dX9_parse_148 (fun v_41 s_42 => ?_)
        refine aw_istore_n (ls' := [(0, .ref (ad 9 t0 0)), (1, .ref (ad 8 0 0)), (2, .int x2), (3, .int (b2i v_41))]) [1, 2, 3, 0] dX9_parse_151 rfl (by decide) rfl ?_
        exact c9_parse_p152 t0 ht0 ih s_42 x2 v_41
def F9_parse (σ : Mem) (t0 : Nat) : Option (Bool × Mem) :=
  bd (F9_clear σ t0) fun _ s_1 => F9_parse_L6 t0 fuelK s_1 0
set_option maxRecDepth 20000 in
theorem c9_parse {l : Launch} {D : va_G} {ad : Nat → Nat → Nat → Nat} {cid : Nat → Nat → Nat → ClassId} (σ : Mem) (t0 : Nat) (ht0 : t0 < 5) : AMF (XC l D ad cid) M9_parse 6 eB [.ref (ad 9 t0 0), .ref (ad 8 0 0)] σ (F9_parse σ t0) := by
  refine AM.ofW (by decide +kernel) (Nat.le_of_ble_eq_true rfl) (ls := [(0, .ref (ad 9 t0 0)), (1, .ref (ad 8 0 0))]) rfl ?_
  refine aw_entry ?_
  unfold F9_parse
  refine aw_aload_n 0 dX9_parse_0 rfl rfl ?_
  refine aw_callVW_U (c9_clear σ t0 (by omega)) (io_9 (by omega)) ci_9 (by decide) mk_9_clear w_316 w_317 w_315 rfl rfl (Nat.le_of_ble_eq_true rfl) dX9_parse_1 (fun _ s_1 => ?_)
  refine aw_iconst 0 dX9_parse_4 (by decide) ?_
  refine aw_istore_n (ls' := [(0, .ref (ad 9 t0 0)), (1, .ref (ad 8 0 0)), (2, .int 0)]) [1, 2, 0] dX9_parse_5 rfl (by decide) rfl ?_
  exact c9_parse_L6 t0 (by omega) fuelK s_1 0
def F20_fillI_L5 (a0 : Nat) (b0 : Nat) (c0 : Nat) (n0 : Nat) (x1 : Int32) (x3 : Int32) : Nat → Mem → Int32 → Option ((Unit) × Mem)
  | 0 => fun _ _ => none
  | n + 1 => fun σ x2 =>
    if x3 ≤ x2 then (some ((), σ)) else (chk n0 x2 <| bnd (sI σ a0 b0 c0 (Int32.toNatClampNeg x2) x1) fun s_2 => (F20_fillI_L5 a0 b0 c0 n0 x1 x3 n) s_2 (x2 + 1))
set_option maxRecDepth 20000 in
theorem c20_fillI_L5 {X : Ctx} {α : Type} {emb : α → Option Value} (a0 : Nat) (b0 : Nat) (c0 : Nat) (n0 : Nat) (hn0 : IsI X a0 b0 c0 n0 .int) (x1 : Int32) (x3 : Int32) {G : Unit → Mem → Option (α × Mem)} (kx : ∀ r σ, AW X M20_fillI 0 emb [] 20 [] σ (G r σ)) : ∀ (n : Nat) (σ : Mem) (x2 : Int32), AW X M20_fillI 0 emb [(0, .ref (X.2.2.2.2.1 a0 b0 c0)), (1, .int x1), (2, .int x2), (3, .int x3)] 5 [] σ (bd (F20_fillI_L5 a0 b0 c0 n0 x1 x3 n σ x2) G) := by
  intro n
  induction n with
  | zero => intros; exact aw_none
  | succ n ih =>
    intro σ x2
    refine aw_bdB ?_
    rw [F20_fillI_L5.eq_2]
    refine aw_iload_n 2 dX20_fillI_5 rfl rfl ?_
    refine aw_iload_n 3 dX20_fillI_6 rfl rfl ?_
    refine aw_icmp_ge 20 dX20_fillI_7 (by decide) ?_ ?_
    · refine aw_ls (ls' := []) [] rfl ?_
      exact kx () σ
    · refine aw_aload_n 0 dX20_fillI_10 rfl rfl ?_
      refine aw_iload_n 2 dX20_fillI_11 rfl rfl ?_
      refine aw_iload_n 1 dX20_fillI_12 rfl rfl ?_
      refine aw_iastore hn0 dX20_fillI_13 ?_
      refine aw_bndM (fun s_2 => ?_)
      refine aw_iinc (ls' := [(0, .ref (X.2.2.2.2.1 a0 b0 c0)), (1, .int x1), (2, .int (x2 + 1)), (3, .int x3)]) (x2 + 1) 2 [1, 2, 0, 3] dX20_fillI_14 rfl (by rfl) (by decide) rfl ?_
      refine aw_goto 5 dX20_fillI_17 (by decide) ?_
      exact ih s_2 (x2 + 1)
def F20_fillI (σ : Mem) (a0 : Nat) (b0 : Nat) (c0 : Nat) (n0 : Nat) (x1 : Int32) : Option (Unit × Mem) :=
  bnd (Int32.ofNat n0) fun v_1 => bd (F20_fillI_L5 a0 b0 c0 n0 x1 v_1 fuelK σ 0) fun r_3 s_4 => some ((), s_4)
set_option maxRecDepth 20000 in
theorem c20_fillI {X : Ctx} (σ : Mem) (a0 : Nat) (b0 : Nat) (c0 : Nat) (n0 : Nat) (hn0 : IsI X a0 b0 c0 n0 .int) (x1 : Int32) : AMF X M20_fillI 0 eU [.ref (X.2.2.2.2.1 a0 b0 c0), .int x1] σ (F20_fillI σ a0 b0 c0 n0 x1) := by
  refine AM.ofW (by decide +kernel) (Nat.le_of_ble_eq_true rfl) (ls := [(0, .ref (X.2.2.2.2.1 a0 b0 c0)), (1, .int x1)]) rfl ?_
  refine aw_entry ?_
  unfold F20_fillI
  refine aw_iconst 0 dX20_fillI_0 (by decide) ?_
  refine aw_istore_n (ls' := [(0, .ref (X.2.2.2.2.1 a0 b0 c0)), (1, .int x1), (2, .int 0)]) [1, 2, 0] dX20_fillI_1 rfl (by decide) rfl ?_
  refine aw_aload_n 0 dX20_fillI_2 rfl rfl ?_
  refine aw_alenI hn0 rfl dX20_fillI_3 ?_
  refine aw_bnd_int (fun v_1 => ?_)
  refine aw_istore_n (ls' := [(0, .ref (X.2.2.2.2.1 a0 b0 c0)), (1, .int x1), (2, .int 0), (3, .int v_1)]) [1, 2, 3, 0] dX20_fillI_4 rfl (by decide) rfl ?_
  refine aw_assocW ?_
  refine c20_fillI_L5 a0 b0 c0 n0 hn0 x1 v_1 (fun r_3 s_4 => ?_) fuelK σ 0
  exact aw_return rfl dX20_fillI_20
def F7_clear (σ : Mem) (t0 : Nat) : Option (Unit × Mem) :=
  bnd (sI σ 7 t0 0 0 0) fun s_1 => bnd (sI s_1 7 t0 0 1 0) fun s_2 => bd (F20_fillI s_2 7 t0 5 6 0) fun _ s_3 => some ((), s_3)
set_option maxRecDepth 20000 in
theorem c7_clear {l : Launch} {D : va_G} {ad : Nat → Nat → Nat → Nat} {cid : Nat → Nat → Nat → ClassId} (σ : Mem) (t0 : Nat) (ht0 : t0 < 5) : AMF (XC l D ad cid) M7_clear 1 eU [.ref (ad 7 t0 0)] σ (F7_clear σ t0) := by
  refine AM.ofW (by decide +kernel) (Nat.le_of_ble_eq_true rfl) (ls := [(0, .ref (ad 7 t0 0))]) rfl ?_
  refine aw_entry ?_
  unfold F7_clear
  refine aw_aload_n 0 dX7_clear_0 rfl rfl ?_
  refine aw_iconst 0 dX7_clear_1 (by decide) ?_
  refine aw_putI (fs_7_0 (by omega)) ci_7 (by decide) rfl rfl w_460 dX7_clear_2 ?_
  refine aw_bndM (fun s_1 => ?_)
  refine aw_aload_n 0 dX7_clear_5 rfl rfl ?_
  refine aw_iconst 0 dX7_clear_6 (by decide) ?_
  refine aw_putI (fs_7_1 (by omega)) ci_7 (by decide) rfl rfl w_463 dX7_clear_7 ?_
  refine aw_bndM (fun s_2 => ?_)
  refine aw_aload_n 0 dX7_clear_10 rfl rfl ?_
  refine aw_getf (fg_7_6 (by omega)) ci_7 (by decide) w_474 dX7_clear_11 ?_
  refine aw_iconst 0 dX7_clear_14 (by decide) ?_
  refine aw_callSW_U (c20_fillI s_2 7 t0 5 6 (ar_7_5 (by omega)) 0) (by decide) mk_20_fillI w_967 w_966 rfl rfl (Nat.le_of_ble_eq_true rfl) dX7_clear_15 (fun _ s_3 => ?_)
  exact aw_return rfl dX7_clear_18
def F5_clear (σ : Mem) (t0 : Nat) : Option (Unit × Mem) :=
  bnd (sB σ 5 t0 0 0 false) fun s_1 => bnd (sI s_1 5 t0 0 1 0) fun s_2 => bnd (sI s_2 5 t0 0 2 0) fun s_3 => bnd (sI s_3 5 t0 0 8 0) fun s_4 => some ((), s_4)
set_option maxRecDepth 20000 in
theorem c5_clear {l : Launch} {D : va_G} {ad : Nat → Nat → Nat → Nat} {cid : Nat → Nat → Nat → ClassId} (σ : Mem) (t0 : Nat) (ht0 : t0 < 5) : AMF (XC l D ad cid) M5_clear 0 eU [.ref (ad 5 t0 0)] σ (F5_clear σ t0) := by
  refine AM.ofW (by decide +kernel) (Nat.le_of_ble_eq_true rfl) (ls := [(0, .ref (ad 5 t0 0))]) rfl ?_
  refine aw_entry ?_
  unfold F5_clear
  refine aw_aload_n 0 dX5_clear_0 rfl rfl ?_
  refine aw_iconst 0 dX5_clear_1 (by decide) ?_
  refine aw_putB (v := false) rfl (fs_5_0 (by omega)) ci_5 (by decide) rfl rfl w_415 dX5_clear_2 ?_
  refine aw_bndM (fun s_1 => ?_)
  refine aw_aload_n 0 dX5_clear_5 rfl rfl ?_
  refine aw_iconst 0 dX5_clear_6 (by decide) ?_
  refine aw_putI (fs_5_1 (by omega)) ci_5 (by decide) rfl rfl w_417 dX5_clear_7 ?_
  refine aw_bndM (fun s_2 => ?_)
  refine aw_aload_n 0 dX5_clear_10 rfl rfl ?_
  refine aw_iconst 0 dX5_clear_11 (by decide) ?_
  refine aw_putI (fs_5_2 (by omega)) ci_5 (by decide) rfl rfl w_419 dX5_clear_12 ?_
  refine aw_bndM (fun s_3 => ?_)
  refine aw_aload_n 0 dX5_clear_15 rfl rfl ?_
  refine aw_iconst 0 dX5_clear_16 (by decide) ?_
  refine aw_putI (fs_5_8 (by omega)) ci_5 (by decide) rfl rfl w_431 dX5_clear_17 ?_
  refine aw_bndM (fun s_4 => ?_)
  exact aw_return rfl dX5_clear_20
def F11_answer (σ : Mem) (x1 : Int32) : Option (Int32 × Mem) :=
  bnd (sI σ 11 0 0 0 0) fun s_1 => some (x1, s_1)
set_option maxRecDepth 20000 in
theorem c11_answer {l : Launch} {D : va_G} {ad : Nat → Nat → Nat → Nat} {cid : Nat → Nat → Nat → ClassId} (σ : Mem) (x1 : Int32) : AMF (XC l D ad cid) M11_answer 0 eI [.ref (ad 11 0 0), .int x1] σ (F11_answer σ x1) := by
  refine AM.ofW (by decide +kernel) (Nat.le_of_ble_eq_true rfl) (ls := [(0, .ref (ad 11 0 0)), (1, .int x1)]) rfl ?_
  refine aw_entry ?_
  unfold F11_answer
  refine aw_aload_n 0 dX11_answer_0 rfl rfl ?_
  refine aw_iconst 0 dX11_answer_1 (by decide) ?_
  refine aw_putI (fs_11_0 (by decide)) ci_11 (by decide) rfl rfl w_717 dX11_answer_2 ?_
  refine aw_bndM (fun s_1 => ?_)
  refine aw_iload_n 1 dX11_answer_5 rfl rfl ?_
  exact aw_ireturn rfl dX11_answer_6
def F11_tent (σ : Mem) (x1 : Int32) : Option (Int32 × Mem) :=
  if (F11_within x1 0 (gI σ 8 0 0 1)) = true then (bd (F8_begin σ x1) fun _ s_1 => gd 5 (gR s_1 11 0 0 6) fun t_2 => bd (F9_parse s_1 t_2) fun v_3 s_4 => bnd (sI s_4 8 0 0 1 0) fun s_5 => if v_3 = true then (gd 5 (gR s_5 11 0 0 5) fun t_6 => gd 5 (gR s_5 11 0 0 6) fun t_7 => bnd (sR s_5 11 0 0 5 t_7) fun s_8 => bnd (sR s_8 11 0 0 6 t_6) fun s_9 => bd (F7_clear s_9 0) fun _ s_10 => gd 5 (gR s_10 11 0 0 7) fun t_11 => bd (F5_clear s_10 t_11) fun _ s_12 => gd 5 (gR s_12 11 0 0 5) fun t_13 => bd (F11_answer s_12 (gI s_12 9 t_13 0 7)) fun v_14 s_15 => some (v_14, s_15)) else (bd (F11_refuse s_5 10) fun v_16 s_17 => some (v_16, s_17))) else (bd (F11_refuse σ 5) fun v_18 s_19 => some (v_18, s_19))
set_option maxRecDepth 20000 in
theorem c11_tent {l : Launch} {D : va_G} {ad : Nat → Nat → Nat → Nat} {cid : Nat → Nat → Nat → ClassId} (σ : Mem) (x1 : Int32) : AMF (XC l D ad cid) M11_tent 7 eI [.ref (ad 11 0 0), .int x1] σ (F11_tent σ x1) := by
  refine AM.ofW (by decide +kernel) (Nat.le_of_ble_eq_true rfl) (ls := [(0, .ref (ad 11 0 0)), (1, .int x1)]) rfl ?_
  refine aw_entry ?_
  unfold F11_tent
  refine aw_iload_n 1 dX11_tent_0 rfl rfl ?_
  refine aw_iconst 0 dX11_tent_1 (by decide) ?_
  refine aw_aload_n 0 dX11_tent_2 rfl rfl ?_
  refine aw_getf (fg_11_4 (by decide)) ci_11 (by decide) w_721 dX11_tent_3 ?_
  refine aw_getf (fg_8_1 (by decide)) ci_8 (by decide) w_256 dX11_tent_6 ?_
  refine aw_callST_B (c11_within σ x1 0 (gI σ 8 0 0 1)) (by decide) mk_11_within w_798 w_797 rfl rfl (Nat.le_of_ble_eq_true rfl) dX11_tent_9 ?_
  refine aw_bif_ne 21 dX11_tent_12 (by decide) ?_ ?_
  · refine aw_aload_n 0 dX11_tent_21 rfl rfl ?_
    refine aw_getf (fg_11_4 (by decide)) ci_11 (by decide) w_721 dX11_tent_22 ?_
    refine aw_iload_n 1 dX11_tent_25 rfl rfl ?_
    refine aw_callVW_U (c8_begin σ x1) (io_8 (by decide)) ci_8 (by decide) mk_8_begin w_860 w_861 w_859 rfl rfl (Nat.le_of_ble_eq_true rfl) dX11_tent_26 (fun _ s_1 => ?_)
    refine aw_aload_n 0 dX11_tent_29 rfl rfl ?_
    refine aw_getf (fg_11_6 (by decide)) ci_11 (by decide) w_723 dX11_tent_30 ?_
    refine aw_gd (n := 5) (fun t_2 ht_2 => ?_)
    refine aw_aload_n 0 dX11_tent_33 rfl rfl ?_
    refine aw_getf (fg_11_4 (by decide)) ci_11 (by decide) w_721 dX11_tent_34 ?_
    refine aw_callVW_B (c9_parse s_1 t_2 (by omega)) (io_9 (by omega)) ci_9 (by decide) mk_9_parse w_888 w_889 w_887 rfl rfl (Nat.le_of_ble_eq_true rfl) dX11_tent_37 (fun v_3 s_4 => ?_)
    refine aw_istore_n (ls' := [(0, .ref (ad 11 0 0)), (2, .int (b2i v_3))]) [1, 0] dX11_tent_40 rfl (by decide) rfl ?_
    refine aw_aload_n 0 dX11_tent_41 rfl rfl ?_
    refine aw_getf (fg_11_4 (by decide)) ci_11 (by decide) w_721 dX11_tent_42 ?_
    refine aw_iconst 0 dX11_tent_45 (by decide) ?_
    refine aw_putI (fs_8_1 (by decide)) ci_8 (by decide) rfl rfl w_256 dX11_tent_46 ?_
    refine aw_bndM (fun s_5 => ?_)
    refine aw_iload_n 1 dX11_tent_49 rfl rfl ?_
    refine aw_bif_ne 60 dX11_tent_50 (by decide) ?_ ?_
    · refine aw_aload_n 0 dX11_tent_60 rfl rfl ?_
      refine aw_getf (fg_11_5 (by decide)) ci_11 (by decide) w_722 dX11_tent_61 ?_
      refine aw_gd (n := 5) (fun t_6 ht_6 => ?_)
      refine aw_astore_n (ls' := [(0, .ref (ad 11 0 0)), (3, .ref (ad 9 t_6 0))]) [1, 0] dX11_tent_64 rfl (by decide) rfl ?_
      refine aw_aload_n 0 dX11_tent_65 rfl rfl ?_
      refine aw_aload_n 0 dX11_tent_66 rfl rfl ?_
      refine aw_getf (fg_11_6 (by decide)) ci_11 (by decide) w_723 dX11_tent_67 ?_
      refine aw_gd (n := 5) (fun t_7 ht_7 => ?_)
      refine aw_putR (fs_11_5 (by decide)) ci_11 (by decide) rfl rfl w_722 dX11_tent_70 ?_
      refine aw_bndM (fun s_8 => ?_)
      refine aw_aload_n 0 dX11_tent_73 rfl rfl ?_
      refine aw_aload_n 1 dX11_tent_74 rfl rfl ?_
      refine aw_putR (fs_11_6 (by decide)) ci_11 (by decide) rfl rfl w_723 dX11_tent_75 ?_
      refine aw_bndM (fun s_9 => ?_)
      refine aw_aload_n 0 dX11_tent_78 rfl rfl ?_
      refine aw_getf (fg_11_9 (by decide)) ci_11 (by decide) w_726 dX11_tent_79 ?_
      refine aw_callVW_U (c7_clear s_9 0 (by decide)) (io_7 (by decide)) ci_7 (by decide) mk_7_clear w_963 w_964 w_962 rfl rfl (Nat.le_of_ble_eq_true rfl) dX11_tent_82 (fun _ s_10 => ?_)
      refine aw_aload_n 0 dX11_tent_85 rfl rfl ?_
      refine aw_getf (fg_11_7 (by decide)) ci_11 (by decide) w_724 dX11_tent_86 ?_
      refine aw_gd (n := 5) (fun t_11 ht_11 => ?_)
      refine aw_callVW_U (c5_clear s_10 t_11 (by omega)) (io_5 (by omega)) ci_5 (by decide) mk_5_clear w_970 w_971 w_969 rfl rfl (Nat.le_of_ble_eq_true rfl) dX11_tent_89 (fun _ s_12 => ?_)
      refine aw_aload_n 0 dX11_tent_92 rfl rfl ?_
      refine aw_aload_n 0 dX11_tent_93 rfl rfl ?_
      refine aw_getf (fg_11_5 (by decide)) ci_11 (by decide) w_722 dX11_tent_94 ?_
      refine aw_gd (n := 5) (fun t_13 ht_13 => ?_)
      refine aw_getf (fg_9_7 (by omega)) ci_9 (by decide) w_338 dX11_tent_97 ?_
      refine aw_callVW_I (c11_answer s_12 (gI s_12 9 t_13 0 7)) (io_11 (by decide)) ci_11 (by decide) mk_11_answer w_975 w_15 w_973 rfl rfl (Nat.le_of_ble_eq_true rfl) dX11_tent_100 (fun v_14 s_15 => ?_)
      exact aw_ireturn rfl dX11_tent_103
    · refine aw_aload_n 0 dX11_tent_53 rfl rfl ?_
      refine aw_bipush 10 dX11_tent_54 (by decide) ?_
      refine aw_callVW_I (c11_refuse s_5 10) (io_11 (by decide)) ci_11 (by decide) mk_11_refuse w_838 w_3 w_836 rfl rfl (Nat.le_of_ble_eq_true rfl) dX11_tent_56 (fun v_16 s_17 => ?_)
      exact aw_ireturn rfl dX11_tent_59
  · refine aw_aload_n 0 dX11_tent_15 rfl rfl ?_
    refine aw_iconst 5 dX11_tent_16 (by decide) ?_
    refine aw_callVW_I (c11_refuse σ 5) (io_11 (by decide)) ci_11 (by decide) mk_11_refuse w_838 w_3 w_836 rfl rfl (Nat.le_of_ble_eq_true rfl) dX11_tent_17 (fun v_18 s_19 => ?_)
    exact aw_ireturn rfl dX11_tent_20
def F5_ends (σ : Mem) (t0 : Nat) : Option (Bool × Mem) :=
  if (gI σ 5 t0 0 8) ≤ 0 then (bd (F8_refuseHere σ 2) fun v_1 s_2 => some (v_1, s_2)) else (if (gI σ 5 t0 0 2) < 60 then (bnd (sI σ 5 t0 0 8 ((gI σ 5 t0 0 8) - 1)) fun s_3 => (ald 3 (gI s_3 5 t0 6) (gI s_3 5 t0 0 8)).bind fun v_4 => chk 60 (gI s_3 5 t0 0 2) <| bnd (sI s_3 5 t0 1 (Int32.toNatClampNeg (gI s_3 5 t0 0 2)) 28) fun s_5 => chk 60 (gI s_5 5 t0 0 2) <| bnd (sI s_5 5 t0 5 (Int32.toNatClampNeg (gI s_5 5 t0 0 2)) v_4) fun s_6 => chk 60 v_4 <| bnd (sI s_6 5 t0 5 (Int32.toNatClampNeg v_4) (gI s_6 5 t0 0 2)) fun s_7 => bnd (sI s_7 5 t0 0 2 ((gI s_7 5 t0 0 2) + 1)) fun s_8 => bd (F8_advance s_8) fun _ s_9 => some (true, s_9)) else (bd (F8_refuseHere σ 2) fun v_10 s_11 => some (v_10, s_11)))
set_option maxRecDepth 20000 in
theorem c5_ends {l : Launch} {D : va_G} {ad : Nat → Nat → Nat → Nat} {cid : Nat → Nat → Nat → ClassId} (σ : Mem) (t0 : Nat) (ht0 : t0 < 5) : AMF (XC l D ad cid) M5_ends 3 eB [.ref (ad 5 t0 0), .ref (ad 8 0 0)] σ (F5_ends σ t0) := by
  refine AM.ofW (by decide +kernel) (Nat.le_of_ble_eq_true rfl) (ls := [(0, .ref (ad 5 t0 0)), (1, .ref (ad 8 0 0))]) rfl ?_
  refine aw_entry ?_
  unfold F5_ends
  refine aw_aload_n 0 dX5_ends_0 rfl rfl ?_
  refine aw_getf (fg_5_8 (by omega)) ci_5 (by decide) w_431 dX5_ends_1 ?_
  refine aw_if_le 16 dX5_ends_4 (by decide) ?_ ?_
  · refine aw_aload_n 1 dX5_ends_16 rfl rfl ?_
    refine aw_iconst 2 dX5_ends_17 (by decide) ?_
    refine aw_callVW_B (c8_refuseHere σ 2) (io_8 (by decide)) ci_8 (by decide) mk_8_refuseHere w_900 w_901 w_991 rfl rfl (Nat.le_of_ble_eq_true rfl) dX5_ends_18 (fun v_1 s_2 => ?_)
    exact aw_zreturn (b := v_1) rfl rfl dX5_ends_21
  · refine aw_aload_n 0 dX5_ends_7 rfl rfl ?_
    refine aw_getf (fg_5_2 (by omega)) ci_5 (by decide) w_419 dX5_ends_8 ?_
    refine aw_bipush 60 dX5_ends_11 (by decide) ?_
    refine aw_icmp_lt 22 dX5_ends_13 (by decide) ?_ ?_
    · refine aw_aload_n 0 dX5_ends_22 rfl rfl ?_
      refine aw_dup dX5_ends_23 rfl ?_
      refine aw_getf (fg_5_8 (by omega)) ci_5 (by decide) w_431 dX5_ends_24 ?_
      refine aw_iconst 1 dX5_ends_27 (by decide) ?_
      refine aw_isub dX5_ends_28 ?_
      refine aw_putI (fs_5_8 (by omega)) ci_5 (by decide) rfl rfl w_431 dX5_ends_29 ?_
      refine aw_bndM (fun s_3 => ?_)
      refine aw_aload_n 0 dX5_ends_32 rfl rfl ?_
      refine aw_getf (fg_5_9 (by omega)) ci_5 (by decide) w_432 dX5_ends_33 ?_
      refine aw_aload_n 0 dX5_ends_36 rfl rfl ?_
      refine aw_getf (fg_5_8 (by omega)) ci_5 (by decide) w_431 dX5_ends_37 ?_
      refine aw_iaload (ar_5_6 (by omega)) dX5_ends_40 (fun v_4 => ?_)
      refine aw_istore_n (ls' := [(0, .ref (ad 5 t0 0)), (1, .ref (ad 8 0 0)), (2, .int v_4)]) [1, 2, 0] dX5_ends_41 rfl (by decide) rfl ?_
      refine aw_aload_n 0 dX5_ends_42 rfl rfl ?_
      refine aw_getf (fg_5_3 (by omega)) ci_5 (by decide) w_421 dX5_ends_43 ?_
      refine aw_aload_n 0 dX5_ends_46 rfl rfl ?_
      refine aw_getf (fg_5_2 (by omega)) ci_5 (by decide) w_419 dX5_ends_47 ?_
      refine aw_bipush 28 dX5_ends_50 (by decide) ?_
      refine aw_iastore (ar_5_1 (by omega)) dX5_ends_52 ?_
      refine aw_bndM (fun s_5 => ?_)
      refine aw_aload_n 0 dX5_ends_53 rfl rfl ?_
      refine aw_getf (fg_5_7 (by omega)) ci_5 (by decide) w_429 dX5_ends_54 ?_
      refine aw_aload_n 0 dX5_ends_57 rfl rfl ?_
      refine aw_getf (fg_5_2 (by omega)) ci_5 (by decide) w_419 dX5_ends_58 ?_
      refine aw_iload_n 2 dX5_ends_61 rfl rfl ?_
      refine aw_iastore (ar_5_5 (by omega)) dX5_ends_62 ?_
      refine aw_bndM (fun s_6 => ?_)
      refine aw_aload_n 0 dX5_ends_63 rfl rfl ?_
      refine aw_getf (fg_5_7 (by omega)) ci_5 (by decide) w_429 dX5_ends_64 ?_
      refine aw_iload_n 2 dX5_ends_67 rfl rfl ?_
      refine aw_aload_n 0 dX5_ends_68 rfl rfl ?_
      refine aw_getf (fg_5_2 (by omega)) ci_5 (by decide) w_419 dX5_ends_69 ?_
      refine aw_iastore (ar_5_5 (by omega)) dX5_ends_72 ?_
      refine aw_bndM (fun s_7 => ?_)
      refine aw_aload_n 0 dX5_ends_73 rfl rfl ?_
      refine aw_dup dX5_ends_74 rfl ?_
      refine aw_getf (fg_5_2 (by omega)) ci_5 (by decide) w_419 dX5_ends_75 ?_
      refine aw_iconst 1 dX5_ends_78 (by decide) ?_
      refine aw_iadd dX5_ends_79 ?_
      refine aw_putI (fs_5_2 (by omega)) ci_5 (by decide) rfl rfl w_419 dX5_ends_80 ?_
      refine aw_bndM (fun s_8 => ?_)
      refine aw_aload_n 1 dX5_ends_83 rfl rfl ?_
      refine aw_callVW_U (c8_advance s_8 ) (io_8 (by decide)) ci_8 (by decide) mk_8_advance w_870 w_871 w_992 rfl rfl (Nat.le_of_ble_eq_true rfl) dX5_ends_84 (fun _ s_9 => ?_)
      refine aw_iconst 1 dX5_ends_87 (by decide) ?_
      exact aw_zreturn (b := true) rfl rfl dX5_ends_88
    · refine aw_aload_n 1 dX5_ends_16 rfl rfl ?_
      refine aw_iconst 2 dX5_ends_17 (by decide) ?_
      refine aw_callVW_B (c8_refuseHere σ 2) (io_8 (by decide)) ci_8 (by decide) mk_8_refuseHere w_900 w_901 w_991 rfl rfl (Nat.le_of_ble_eq_true rfl) dX5_ends_18 (fun v_10 s_11 => ?_)
      exact aw_zreturn (b := v_10) rfl rfl dX5_ends_21
def F5_isStep_p12 (x0 : Int32) : Bool :=
  if x0 = 27 then (true) else (if x0 = 29 then (true) else (if x0 = 13 then (true) else (false)))
set_option maxRecDepth 20000 in
theorem c5_isStep_p12 {l : Launch} {D : va_G} {ad : Nat → Nat → Nat → Nat} {cid : Nat → Nat → Nat → ClassId} (σ : Mem) (x0 : Int32) : AW (XC l D ad cid) M5_isStep 0 eB [(0, .int x0)] 12 [] σ ((some (F5_isStep_p12 x0)).bind (fun v => some (v, σ))) := by
  unfold F5_isStep_p12
  refine aw_iload_n 0 dX5_isStep_12 rfl rfl ?_
  refine aw_bipush 27 dX5_isStep_13 (by decide) ?_
  refine aw_iteT ?_
  refine aw_icmp_eq 30 dX5_isStep_15 (by decide) ?_ ?_
  · refine aw_iconst 1 dX5_isStep_30 (by decide) ?_
    refine aw_goto 35 dX5_isStep_31 (by decide) ?_
    exact aw_zreturn (b := true) rfl rfl dX5_isStep_35
  · refine aw_iload_n 0 dX5_isStep_18 rfl rfl ?_
    refine aw_bipush 29 dX5_isStep_19 (by decide) ?_
    refine aw_iteT ?_
    refine aw_icmp_eq 30 dX5_isStep_21 (by decide) ?_ ?_
    · refine aw_iconst 1 dX5_isStep_30 (by decide) ?_
      refine aw_goto 35 dX5_isStep_31 (by decide) ?_
      exact aw_zreturn (b := true) rfl rfl dX5_isStep_35
    · refine aw_iload_n 0 dX5_isStep_24 rfl rfl ?_
      refine aw_bipush 13 dX5_isStep_25 (by decide) ?_
      refine aw_iteT ?_
      refine aw_icmp_ne 34 dX5_isStep_27 (by decide) ?_ ?_
      · refine aw_iconst 0 dX5_isStep_34 (by decide) ?_
        exact aw_zreturn (b := false) rfl rfl dX5_isStep_35
      · refine aw_iconst 1 dX5_isStep_30 (by decide) ?_
        refine aw_goto 35 dX5_isStep_31 (by decide) ?_
        exact aw_zreturn (b := true) rfl rfl dX5_isStep_35
def F5_isStep (x0 : Int32) : Bool :=
  if x0 < 17 then (F5_isStep_p12 x0) else (if x0 ≤ 23 then (true) else (F5_isStep_p12 x0))
set_option maxRecDepth 20000 in
theorem c5_isStep {l : Launch} {D : va_G} {ad : Nat → Nat → Nat → Nat} {cid : Nat → Nat → Nat → ClassId} (σ : Mem) (x0 : Int32) : AMF (XC l D ad cid) M5_isStep 0 eB [.int x0] σ (some (F5_isStep x0, σ)) := by
  refine AM.ofW (by decide +kernel) (Nat.le_of_ble_eq_true rfl) (ls := [(0, .int x0)]) rfl ?_
  refine aw_entryT ?_
  unfold F5_isStep
  refine aw_iload_n 0 dX5_isStep_0 rfl rfl ?_
  refine aw_bipush 17 dX5_isStep_1 (by decide) ?_
  refine aw_iteT ?_
  refine aw_icmp_lt 12 dX5_isStep_3 (by decide) ?_ ?_
  · exact c5_isStep_p12 σ x0
  · refine aw_iload_n 0 dX5_isStep_6 rfl rfl ?_
    refine aw_bipush 23 dX5_isStep_7 (by decide) ?_
    refine aw_iteT ?_
    refine aw_icmp_le 30 dX5_isStep_9 (by decide) ?_ ?_
    · refine aw_iconst 1 dX5_isStep_30 (by decide) ?_
      refine aw_goto 35 dX5_isStep_31 (by decide) ?_
      exact aw_zreturn (b := true) rfl rfl dX5_isStep_35
    · exact c5_isStep_p12 σ x0
def F5_begins_p88 (σ : Mem) (t0 : Nat) (x2 : Int32) : Option (Bool × Mem) :=
  chk 60 (gI σ 5 t0 0 2) <| bnd (sI σ 5 t0 1 (Int32.toNatClampNeg (gI σ 5 t0 0 2)) x2) fun s_5 => bnd (sI s_5 5 t0 0 1 ((gI s_5 5 t0 0 1) + 1)) fun s_6 => bnd (sI s_6 5 t0 0 2 ((gI s_6 5 t0 0 2) + 1)) fun s_7 => bd (F8_advance s_7) fun _ s_8 => some (true, s_8)
set_option maxRecDepth 20000 in
theorem c5_begins_p88 {l : Launch} {D : va_G} {ad : Nat → Nat → Nat → Nat} {cid : Nat → Nat → Nat → ClassId} (σ : Mem) (t0 : Nat) (ht0 : t0 < 5) (x2 : Int32) : AW (XC l D ad cid) M5_begins 3 eB [(0, .ref (ad 5 t0 0)), (1, .ref (ad 8 0 0)), (2, .int x2)] 88 [] σ ((F5_begins_p88 σ t0 x2).bind some) := by
  unfold F5_begins_p88
  refine aw_aload_n 0 dX5_begins_88 rfl rfl ?_
  refine aw_getf (fg_5_3 (by omega)) ci_5 (by decide) w_421 dX5_begins_89 ?_
  refine aw_aload_n 0 dX5_begins_92 rfl rfl ?_
  refine aw_getf (fg_5_2 (by omega)) ci_5 (by decide) w_419 dX5_begins_93 ?_
  refine aw_iload_n 2 dX5_begins_96 rfl rfl ?_
  refine aw_iastore (ar_5_1 (by omega)) dX5_begins_97 ?_
  refine aw_bndM (fun s_5 => ?_)
  refine aw_aload_n 0 dX5_begins_98 rfl rfl ?_
  refine aw_dup dX5_begins_99 rfl ?_
  refine aw_getf (fg_5_1 (by omega)) ci_5 (by decide) w_417 dX5_begins_100 ?_
  refine aw_iconst 1 dX5_begins_103 (by decide) ?_
  refine aw_iadd dX5_begins_104 ?_
  refine aw_putI (fs_5_1 (by omega)) ci_5 (by decide) rfl rfl w_417 dX5_begins_105 ?_
  refine aw_bndM (fun s_6 => ?_)
  refine aw_aload_n 0 dX5_begins_108 rfl rfl ?_
  refine aw_dup dX5_begins_109 rfl ?_
  refine aw_getf (fg_5_2 (by omega)) ci_5 (by decide) w_419 dX5_begins_110 ?_
  refine aw_iconst 1 dX5_begins_113 (by decide) ?_
  refine aw_iadd dX5_begins_114 ?_
  refine aw_putI (fs_5_2 (by omega)) ci_5 (by decide) rfl rfl w_419 dX5_begins_115 ?_
  refine aw_bndM (fun s_7 => ?_)
  refine aw_aload_n 1 dX5_begins_118 rfl rfl ?_
  refine aw_callVW_U (c8_advance s_7 ) (io_8 (by decide)) ci_8 (by decide) mk_8_advance w_870 w_871 w_992 rfl rfl (Nat.le_of_ble_eq_true rfl) dX5_begins_119 (fun _ s_8 => ?_)
  refine aw_iconst 1 dX5_begins_122 (by decide) ?_
  exact aw_zreturn (b := true) rfl rfl dX5_begins_123
def F5_begins_p50 (σ : Mem) (t0 : Nat) (x2 : Int32) : Option (Bool × Mem) :=
  if (gI σ 5 t0 0 8) < 3 then (chk 3 (gI σ 5 t0 0 8) <| bnd (sI σ 5 t0 6 (Int32.toNatClampNeg (gI σ 5 t0 0 8)) (gI σ 5 t0 0 2)) fun s_3 => bnd (sI s_3 5 t0 0 8 ((gI s_3 5 t0 0 8) + 1)) fun s_4 => F5_begins_p88 s_4 t0 x2) else (bd (F8_refuseHere σ 7) fun v_9 s_10 => some (v_9, s_10))
set_option maxRecDepth 20000 in
theorem c5_begins_p50 {l : Launch} {D : va_G} {ad : Nat → Nat → Nat → Nat} {cid : Nat → Nat → Nat → ClassId} (σ : Mem) (t0 : Nat) (ht0 : t0 < 5) (x2 : Int32) : AW (XC l D ad cid) M5_begins 3 eB [(0, .ref (ad 5 t0 0)), (1, .ref (ad 8 0 0)), (2, .int x2)] 50 [] σ ((F5_begins_p50 σ t0 x2).bind some) := by
  unfold F5_begins_p50
  refine aw_aload_n 0 dX5_begins_50 rfl rfl ?_
  refine aw_getf (fg_5_8 (by omega)) ci_5 (by decide) w_431 dX5_begins_51 ?_
  refine aw_iconst 3 dX5_begins_54 (by decide) ?_
  refine aw_icmp_lt 65 dX5_begins_55 (by decide) ?_ ?_
  · refine aw_aload_n 0 dX5_begins_65 rfl rfl ?_
    refine aw_getf (fg_5_9 (by omega)) ci_5 (by decide) w_432 dX5_begins_66 ?_
    refine aw_aload_n 0 dX5_begins_69 rfl rfl ?_
    refine aw_getf (fg_5_8 (by omega)) ci_5 (by decide) w_431 dX5_begins_70 ?_
    refine aw_aload_n 0 dX5_begins_73 rfl rfl ?_
    refine aw_getf (fg_5_2 (by omega)) ci_5 (by decide) w_419 dX5_begins_74 ?_
    refine aw_iastore (ar_5_6 (by omega)) dX5_begins_77 ?_
    refine aw_bndM (fun s_3 => ?_)
    refine aw_aload_n 0 dX5_begins_78 rfl rfl ?_
    refine aw_dup dX5_begins_79 rfl ?_
    refine aw_getf (fg_5_8 (by omega)) ci_5 (by decide) w_431 dX5_begins_80 ?_
    refine aw_iconst 1 dX5_begins_83 (by decide) ?_
    refine aw_iadd dX5_begins_84 ?_
    refine aw_putI (fs_5_8 (by omega)) ci_5 (by decide) rfl rfl w_431 dX5_begins_85 ?_
    refine aw_bndM (fun s_4 => ?_)
    exact c5_begins_p88 s_4 t0 (by omega) x2
  · refine aw_aload_n 1 dX5_begins_58 rfl rfl ?_
    refine aw_bipush 7 dX5_begins_59 (by decide) ?_
    refine aw_callVW_B (c8_refuseHere σ 7) (io_8 (by decide)) ci_8 (by decide) mk_8_refuseHere w_900 w_901 w_991 rfl rfl (Nat.le_of_ble_eq_true rfl) dX5_begins_61 (fun v_9 s_10 => ?_)
    exact aw_zreturn (b := v_9) rfl rfl dX5_begins_64
def F5_begins (σ : Mem) (t0 : Nat) (x2 : Int32) : Option (Bool × Mem) :=
  if (F5_isStep x2) = true then (if 30 ≤ (gI σ 5 t0 0 1) then (bd (F8_refuseHere σ 6) fun v_1 s_2 => some (v_1, s_2)) else (if (gI σ 5 t0 0 2) < 60 then (if x2 = 23 then (F5_begins_p50 σ t0 x2) else (if x2 = 27 then (F5_begins_p50 σ t0 x2) else (F5_begins_p88 σ t0 x2))) else (bd (F8_refuseHere σ 6) fun v_11 s_12 => some (v_11, s_12)))) else (bd (F8_refuseHere σ 2) fun v_13 s_14 => some (v_13, s_14))
set_option maxRecDepth 20000 in
theorem c5_begins {l : Launch} {D : va_G} {ad : Nat → Nat → Nat → Nat} {cid : Nat → Nat → Nat → ClassId} (σ : Mem) (t0 : Nat) (ht0 : t0 < 5) (x2 : Int32) : AMF (XC l D ad cid) M5_begins 3 eB [.ref (ad 5 t0 0), .ref (ad 8 0 0), .int x2] σ (F5_begins σ t0 x2) := by
  refine AM.ofW (by decide +kernel) (Nat.le_of_ble_eq_true rfl) (ls := [(0, .ref (ad 5 t0 0)), (1, .ref (ad 8 0 0)), (2, .int x2)]) rfl ?_
  refine aw_entry ?_
  unfold F5_begins
  refine aw_iload_n 2 dX5_begins_0 rfl rfl ?_
  refine aw_callST_B (c5_isStep σ x2) (by decide) mk_5_isStep w_998 w_997 rfl rfl (Nat.le_of_ble_eq_true rfl) dX5_begins_1 ?_
  refine aw_bif_ne 13 dX5_begins_4 (by decide) ?_ ?_
  · refine aw_aload_n 0 dX5_begins_13 rfl rfl ?_
    refine aw_getf (fg_5_1 (by omega)) ci_5 (by decide) w_417 dX5_begins_14 ?_
    refine aw_bipush 30 dX5_begins_17 (by decide) ?_
    refine aw_icmp_ge 31 dX5_begins_19 (by decide) ?_ ?_
    · refine aw_aload_n 1 dX5_begins_31 rfl rfl ?_
      refine aw_bipush 6 dX5_begins_32 (by decide) ?_
      refine aw_callVW_B (c8_refuseHere σ 6) (io_8 (by decide)) ci_8 (by decide) mk_8_refuseHere w_900 w_901 w_991 rfl rfl (Nat.le_of_ble_eq_true rfl) dX5_begins_34 (fun v_1 s_2 => ?_)
      exact aw_zreturn (b := v_1) rfl rfl dX5_begins_37
    · refine aw_aload_n 0 dX5_begins_22 rfl rfl ?_
      refine aw_getf (fg_5_2 (by omega)) ci_5 (by decide) w_419 dX5_begins_23 ?_
      refine aw_bipush 60 dX5_begins_26 (by decide) ?_
      refine aw_icmp_lt 38 dX5_begins_28 (by decide) ?_ ?_
      · refine aw_iload_n 2 dX5_begins_38 rfl rfl ?_
        refine aw_bipush 23 dX5_begins_39 (by decide) ?_
        refine aw_icmp_eq 50 dX5_begins_41 (by decide) ?_ ?_
        · exact c5_begins_p50 σ t0 (by omega) x2
        · refine aw_iload_n 2 dX5_begins_44 rfl rfl ?_
          refine aw_bipush 27 dX5_begins_45 (by decide) ?_
          refine aw_icmp_ne 88 dX5_begins_47 (by decide) ?_ ?_
          · exact c5_begins_p88 σ t0 (by omega) x2
          · exact c5_begins_p50 σ t0 (by omega) x2
      · refine aw_aload_n 1 dX5_begins_31 rfl rfl ?_
        refine aw_bipush 6 dX5_begins_32 (by decide) ?_
        refine aw_callVW_B (c8_refuseHere σ 6) (io_8 (by decide)) ci_8 (by decide) mk_8_refuseHere w_900 w_901 w_991 rfl rfl (Nat.le_of_ble_eq_true rfl) dX5_begins_34 (fun v_11 s_12 => ?_)
        exact aw_zreturn (b := v_11) rfl rfl dX5_begins_37
  · refine aw_aload_n 1 dX5_begins_7 rfl rfl ?_
    refine aw_iconst 2 dX5_begins_8 (by decide) ?_
    refine aw_callVW_B (c8_refuseHere σ 2) (io_8 (by decide)) ci_8 (by decide) mk_8_refuseHere w_900 w_901 w_991 rfl rfl (Nat.le_of_ble_eq_true rfl) dX5_begins_9 (fun v_13 s_14 => ?_)
    exact aw_zreturn (b := v_13) rfl rfl dX5_begins_12
def F5_takeKnownName (σ : Mem) (x1 : Int32) : Option (Bool × Mem) :=
  if (F8_atName σ) = true then (if x1 = (-1) then (bd (F8_refuseHere σ 3) fun v_2 s_3 => some (v_2, s_3)) else (bd (F8_advance σ) fun _ s_1 => some (true, s_1))) else (bd (F8_refuseHere σ 2) fun v_4 s_5 => some (v_4, s_5))
set_option maxRecDepth 20000 in
theorem c5_takeKnownName {l : Launch} {D : va_G} {ad : Nat → Nat → Nat → Nat} {cid : Nat → Nat → Nat → ClassId} (σ : Mem) (x1 : Int32) : AMF (XC l D ad cid) M5_takeKnownName 3 eB [.ref (ad 8 0 0), .int x1] σ (F5_takeKnownName σ x1) := by
  refine AM.ofW (by decide +kernel) (Nat.le_of_ble_eq_true rfl) (ls := [(0, .ref (ad 8 0 0)), (1, .int x1)]) rfl ?_
  refine aw_entry ?_
  unfold F5_takeKnownName
  refine aw_aload_n 0 dX5_takeKnownName_0 rfl rfl ?_
  refine aw_callVT_B (c8_atName σ ) (io_8 (by decide)) ci_8 (by decide) mk_8_atName w_943 w_944 w_1008 rfl rfl (Nat.le_of_ble_eq_true rfl) dX5_takeKnownName_1 ?_
  refine aw_bif_ne 13 dX5_takeKnownName_4 (by decide) ?_ ?_
  · refine aw_iload_n 1 dX5_takeKnownName_13 rfl rfl ?_
    refine aw_iconst (-1) dX5_takeKnownName_14 (by decide) ?_
    refine aw_icmp_ne 24 dX5_takeKnownName_15 (by decide) ?_ ?_
    · refine aw_aload_n 0 dX5_takeKnownName_24 rfl rfl ?_
      refine aw_callVW_U (c8_advance σ ) (io_8 (by decide)) ci_8 (by decide) mk_8_advance w_870 w_871 w_992 rfl rfl (Nat.le_of_ble_eq_true rfl) dX5_takeKnownName_25 (fun _ s_1 => ?_)
      refine aw_iconst 1 dX5_takeKnownName_28 (by decide) ?_
      exact aw_zreturn (b := true) rfl rfl dX5_takeKnownName_29
    · refine aw_aload_n 0 dX5_takeKnownName_18 rfl rfl ?_
      refine aw_iconst 3 dX5_takeKnownName_19 (by decide) ?_
      refine aw_callVW_B (c8_refuseHere σ 3) (io_8 (by decide)) ci_8 (by decide) mk_8_refuseHere w_900 w_901 w_991 rfl rfl (Nat.le_of_ble_eq_true rfl) dX5_takeKnownName_20 (fun v_2 s_3 => ?_)
      exact aw_zreturn (b := v_2) rfl rfl dX5_takeKnownName_23
  · refine aw_aload_n 0 dX5_takeKnownName_7 rfl rfl ?_
    refine aw_iconst 2 dX5_takeKnownName_8 (by decide) ?_
    refine aw_callVW_B (c8_refuseHere σ 2) (io_8 (by decide)) ci_8 (by decide) mk_8_refuseHere w_900 w_901 w_991 rfl rfl (Nat.le_of_ble_eq_true rfl) dX5_takeKnownName_9 (fun v_4 s_5 => ?_)
    exact aw_zreturn (b := v_4) rfl rfl dX5_takeKnownName_12
def F5_parseAim_p54 (σ : Mem) (t0 : Nat) (x2 : Int32) (x4 : Int32) (q0 : Nat) (q1 : Int32) (q2 : Int32) : Option (Bool × Mem) :=
  chk 60 q1 <| bnd (sI σ 5 q0 2 (Int32.toNatClampNeg q1) q2) fun s_9 => bd (F8_skipWord s_9 16) fun v_10 s_11 => if v_10 = true then (chk 60 x2 <| bnd (sI s_11 5 t0 3 (Int32.toNatClampNeg x2) (-x4)) fun s_13 => some (true, s_13)) else (chk 60 x2 <| bnd (sI s_11 5 t0 3 (Int32.toNatClampNeg x2) x4) fun s_12 => some (true, s_12))
set_option maxRecDepth 20000 in
theorem c5_parseAim_p54 {l : Launch} {D : va_G} {ad : Nat → Nat → Nat → Nat} {cid : Nat → Nat → Nat → ClassId} (σ : Mem) (t0 : Nat) (ht0 : t0 < 5) (x2 : Int32) (x4 : Int32) (q0 : Nat) (hq0 : q0 < 5) (q1 : Int32) (q2 : Int32) : AW (XC l D ad cid) M5_parseAim 4 eB [(0, .ref (ad 5 t0 0)), (1, .ref (ad 8 0 0)), (2, .int x2), (4, .int x4)] 54 [.int q2, .int q1, .ref (ad 5 q0 2)] σ ((F5_parseAim_p54 σ t0 x2 x4 q0 q1 q2).bind some) := by
  unfold F5_parseAim_p54
  refine aw_iastore (ar_5_2 (by omega)) dX5_parseAim_54 ?_
  refine aw_bndM (fun s_9 => ?_)
  refine aw_aload_n 0 dX5_parseAim_55 rfl rfl ?_
  refine aw_getf (fg_5_5 (by omega)) ci_5 (by decide) w_425 dX5_parseAim_56 ?_
  refine aw_iload_n 2 dX5_parseAim_59 rfl rfl ?_
  refine aw_aload_n 1 dX5_parseAim_60 rfl rfl ?_
  refine aw_bipush 16 dX5_parseAim_61 (by decide) ?_
  refine aw_callVW_B (c8_skipWord s_9 16) (io_8 (by decide)) ci_8 (by decide) mk_8_skipWord w_914 w_915 w_1015 rfl rfl (Nat.le_of_ble_eq_true rfl) dX5_parseAim_63 (fun v_10 s_11 => ?_)
  refine aw_bif_eq 75 dX5_parseAim_66 (by decide) ?_ ?_
  · refine aw_iload 3 dX5_parseAim_75 rfl ?_
    refine aw_iastore (ar_5_3 (by omega)) dX5_parseAim_77 ?_
    refine aw_bndM (fun s_12 => ?_)
    refine aw_iconst 1 dX5_parseAim_78 (by decide) ?_
    exact aw_zreturn (b := true) rfl rfl dX5_parseAim_79
  · refine aw_iload 3 dX5_parseAim_69 rfl ?_
    refine aw_ineg dX5_parseAim_71 ?_
    refine aw_goto 77 dX5_parseAim_72 (by decide) ?_
    refine aw_iastore (ar_5_3 (by omega)) dX5_parseAim_77 ?_
    refine aw_bndM (fun s_13 => ?_)
    refine aw_iconst 1 dX5_parseAim_78 (by decide) ?_
    exact aw_zreturn (b := true) rfl rfl dX5_parseAim_79
def F5_parseAim (σ : Mem) (t0 : Nat) (x2 : Int32) : Option (Bool × Mem) :=
  bd (F8_takeNumber σ 0 60) fun v_1 s_2 => if v_1 = true then (bnd (gI s_2 8 0 0 9) fun v_3 => bd (F8_takeNumber s_2 0 60) fun v_4 s_5 => if v_4 = true then (bnd (gI s_5 8 0 0 9) fun v_6 => bd (F8_skipWord s_5 4) fun v_7 s_8 => if v_7 = true then (F5_parseAim_p54 s_8 t0 x2 v_6 t0 x2 (-v_3)) else (F5_parseAim_p54 s_8 t0 x2 v_6 t0 x2 v_3)) else (some (false, s_5))) else (some (false, s_2))
set_option maxRecDepth 20000 in
theorem c5_parseAim {l : Launch} {D : va_G} {ad : Nat → Nat → Nat → Nat} {cid : Nat → Nat → Nat → ClassId} (σ : Mem) (t0 : Nat) (ht0 : t0 < 5) (x2 : Int32) : AMF (XC l D ad cid) M5_parseAim 4 eB [.ref (ad 5 t0 0), .ref (ad 8 0 0), .int x2] σ (F5_parseAim σ t0 x2) := by
  refine AM.ofW (by decide +kernel) (Nat.le_of_ble_eq_true rfl) (ls := [(0, .ref (ad 5 t0 0)), (1, .ref (ad 8 0 0)), (2, .int x2)]) rfl ?_
  refine aw_entry ?_
  unfold F5_parseAim
  refine aw_aload_n 1 dX5_parseAim_0 rfl rfl ?_
  refine aw_iconst 0 dX5_parseAim_1 (by decide) ?_
  refine aw_bipush 60 dX5_parseAim_2 (by decide) ?_
  refine aw_callVW_B (c8_takeNumber σ 0 60) (io_8 (by decide)) ci_8 (by decide) mk_8_takeNumber w_905 w_906 w_1014 rfl rfl (Nat.le_of_ble_eq_true rfl) dX5_parseAim_4 (fun v_1 s_2 => ?_)
  refine aw_bif_ne 12 dX5_parseAim_7 (by decide) ?_ ?_
  · refine aw_aload_n 1 dX5_parseAim_12 rfl rfl ?_
    refine aw_getf (fg_8_9 (by decide)) ci_8 (by decide) w_273 dX5_parseAim_13 ?_
    refine aw_bnd_int (fun v_3 => ?_)
    refine aw_istore_n (ls' := [(0, .ref (ad 5 t0 0)), (1, .ref (ad 8 0 0)), (2, .int x2), (3, .int v_3)]) [1, 2, 3, 0] dX5_parseAim_16 rfl (by decide) rfl ?_
    refine aw_aload_n 1 dX5_parseAim_17 rfl rfl ?_
    refine aw_iconst 0 dX5_parseAim_18 (by decide) ?_
    refine aw_bipush 60 dX5_parseAim_19 (by decide) ?_
    refine aw_callVW_B (c8_takeNumber s_2 0 60) (io_8 (by decide)) ci_8 (by decide) mk_8_takeNumber w_905 w_906 w_1014 rfl rfl (Nat.le_of_ble_eq_true rfl) dX5_parseAim_21 (fun v_4 s_5 => ?_)
    refine aw_bif_ne 29 dX5_parseAim_24 (by decide) ?_ ?_
    · refine aw_aload_n 1 dX5_parseAim_29 rfl rfl ?_
      refine aw_getf (fg_8_9 (by decide)) ci_8 (by decide) w_273 dX5_parseAim_30 ?_
      refine aw_bnd_int (fun v_6 => ?_)
      refine aw_istore (ls' := [(0, .ref (ad 5 t0 0)), (1, .ref (ad 8 0 0)), (2, .int x2), (3, .int v_3), (4, .int v_6)]) [1, 2, 3, 4, 0] dX5_parseAim_33 (by decide) rfl ?_
      refine aw_aload_n 0 dX5_parseAim_35 rfl rfl ?_
      refine aw_getf (fg_5_4 (by omega)) ci_5 (by decide) w_423 dX5_parseAim_36 ?_
      refine aw_iload_n 2 dX5_parseAim_39 rfl rfl ?_
      refine aw_aload_n 1 dX5_parseAim_40 rfl rfl ?_
      refine aw_iconst 4 dX5_parseAim_41 (by decide) ?_
      refine aw_callVW_B (c8_skipWord s_5 4) (io_8 (by decide)) ci_8 (by decide) mk_8_skipWord w_914 w_915 w_1015 rfl rfl (Nat.le_of_ble_eq_true rfl) dX5_parseAim_42 (fun v_7 s_8 => ?_)
      refine aw_bif_eq 53 dX5_parseAim_45 (by decide) ?_ ?_
      · refine aw_iload_n 3 dX5_parseAim_53 rfl rfl ?_
        refine aw_ls (ls' := [(0, .ref (ad 5 t0 0)), (1, .ref (ad 8 0 0)), (2, .int x2), (4, .int v_6)]) [0, 1, 2, 4] rfl ?_
        exact c5_parseAim_p54 s_8 t0 (by omega) x2 v_6 t0 (by omega) x2 v_3
      · refine aw_iload_n 3 dX5_parseAim_48 rfl rfl ?_
        refine aw_ineg dX5_parseAim_49 ?_
        refine aw_goto 54 dX5_parseAim_50 (by decide) ?_
        refine aw_ls (ls' := [(0, .ref (ad 5 t0 0)), (1, .ref (ad 8 0 0)), (2, .int x2), (4, .int v_6)]) [0, 1, 2, 4] rfl ?_
        exact c5_parseAim_p54 s_8 t0 (by omega) x2 v_6 t0 (by omega) x2 (-v_3)
    · refine aw_iconst 0 dX5_parseAim_27 (by decide) ?_
      exact aw_zreturn (b := false) rfl rfl dX5_parseAim_28
  · refine aw_iconst 0 dX5_parseAim_10 (by decide) ?_
    exact aw_zreturn (b := false) rfl rfl dX5_parseAim_11
def F5_parseNumber (σ : Mem) (t0 : Nat) (x2 : Int32) (x3 : Int32) (x4 : Int32) : Option (Bool × Mem) :=
  bd (F8_takeNumber σ x3 x4) fun v_1 s_2 => if v_1 = true then (chk 60 x2 <| bnd (sI s_2 5 t0 2 (Int32.toNatClampNeg x2) (gI s_2 8 0 0 9)) fun s_3 => some (true, s_3)) else (some (false, s_2))
set_option maxRecDepth 20000 in
theorem c5_parseNumber {l : Launch} {D : va_G} {ad : Nat → Nat → Nat → Nat} {cid : Nat → Nat → Nat → ClassId} (σ : Mem) (t0 : Nat) (ht0 : t0 < 5) (x2 : Int32) (x3 : Int32) (x4 : Int32) : AMF (XC l D ad cid) M5_parseNumber 4 eB [.ref (ad 5 t0 0), .ref (ad 8 0 0), .int x2, .int x3, .int x4] σ (F5_parseNumber σ t0 x2 x3 x4) := by
  refine AM.ofW (by decide +kernel) (Nat.le_of_ble_eq_true rfl) (ls := [(0, .ref (ad 5 t0 0)), (1, .ref (ad 8 0 0)), (2, .int x2), (3, .int x3), (4, .int x4)]) rfl ?_
  refine aw_entry ?_
  unfold F5_parseNumber
  refine aw_aload_n 1 dX5_parseNumber_0 rfl rfl ?_
  refine aw_iload_n 3 dX5_parseNumber_1 rfl rfl ?_
  refine aw_iload 4 dX5_parseNumber_2 rfl ?_
  refine aw_callVW_B (c8_takeNumber σ x3 x4) (io_8 (by decide)) ci_8 (by decide) mk_8_takeNumber w_905 w_906 w_1014 rfl rfl (Nat.le_of_ble_eq_true rfl) dX5_parseNumber_4 (fun v_1 s_2 => ?_)
  refine aw_bif_ne 12 dX5_parseNumber_7 (by decide) ?_ ?_
  · refine aw_aload_n 0 dX5_parseNumber_12 rfl rfl ?_
    refine aw_getf (fg_5_4 (by omega)) ci_5 (by decide) w_423 dX5_parseNumber_13 ?_
    refine aw_iload_n 2 dX5_parseNumber_16 rfl rfl ?_
    refine aw_aload_n 1 dX5_parseNumber_17 rfl rfl ?_
    refine aw_getf (fg_8_9 (by decide)) ci_8 (by decide) w_273 dX5_parseNumber_18 ?_
    refine aw_iastore (ar_5_2 (by omega)) dX5_parseNumber_21 ?_
    refine aw_bndM (fun s_3 => ?_)
    refine aw_iconst 1 dX5_parseNumber_22 (by decide) ?_
    exact aw_zreturn (b := true) rfl rfl dX5_parseNumber_23
  · refine aw_iconst 0 dX5_parseNumber_10 (by decide) ?_
    exact aw_zreturn (b := false) rfl rfl dX5_parseNumber_11
def F8_takeCompares (σ : Mem)  : Option (Bool × Mem) :=
  if (gI σ 8 0 0 8) = 60 then (bnd (sI σ 8 0 0 9 (gI σ 8 0 0 8)) fun s_1 => bd (F8_advance s_1) fun _ s_2 => some (true, s_2)) else (if (gI σ 8 0 0 8) = 62 then (bnd (sI σ 8 0 0 9 (gI σ 8 0 0 8)) fun s_3 => bd (F8_advance s_3) fun _ s_4 => some (true, s_4)) else (if (gI σ 8 0 0 8) = 61 then (bnd (sI σ 8 0 0 9 (gI σ 8 0 0 8)) fun s_5 => bd (F8_advance s_5) fun _ s_6 => some (true, s_6)) else (bd (F8_refuseHere σ 2) fun v_7 s_8 => some (v_7, s_8))))
set_option maxRecDepth 20000 in
theorem c8_takeCompares {l : Launch} {D : va_G} {ad : Nat → Nat → Nat → Nat} {cid : Nat → Nat → Nat → ClassId} (σ : Mem)  : AMF (XC l D ad cid) M8_takeCompares 3 eB [.ref (ad 8 0 0)] σ (F8_takeCompares σ) := by
  refine AM.ofW (by decide +kernel) (Nat.le_of_ble_eq_true rfl) (ls := [(0, .ref (ad 8 0 0))]) rfl ?_
  refine aw_entry ?_
  unfold F8_takeCompares
  refine aw_aload_n 0 dX8_takeCompares_0 rfl rfl ?_
  refine aw_getf (fg_8_8 (by decide)) ci_8 (by decide) w_271 dX8_takeCompares_1 ?_
  refine aw_bipush 60 dX8_takeCompares_4 (by decide) ?_
  refine aw_icmp_eq 33 dX8_takeCompares_6 (by decide) ?_ ?_
  · refine aw_aload_n 0 dX8_takeCompares_33 rfl rfl ?_
    refine aw_aload_n 0 dX8_takeCompares_34 rfl rfl ?_
    refine aw_getf (fg_8_8 (by decide)) ci_8 (by decide) w_271 dX8_takeCompares_35 ?_
    refine aw_putI (fs_8_9 (by decide)) ci_8 (by decide) rfl rfl w_274 dX8_takeCompares_38 ?_
    refine aw_bndM (fun s_1 => ?_)
    refine aw_aload_n 0 dX8_takeCompares_41 rfl rfl ?_
    refine aw_callVW_U (c8_advance s_1 ) (io_8 (by decide)) ci_8 (by decide) mk_8_advance w_870 w_871 w_869 rfl rfl (Nat.le_of_ble_eq_true rfl) dX8_takeCompares_42 (fun _ s_2 => ?_)
    refine aw_iconst 1 dX8_takeCompares_45 (by decide) ?_
    exact aw_zreturn (b := true) rfl rfl dX8_takeCompares_46
  · refine aw_aload_n 0 dX8_takeCompares_9 rfl rfl ?_
    refine aw_getf (fg_8_8 (by decide)) ci_8 (by decide) w_271 dX8_takeCompares_10 ?_
    refine aw_bipush 62 dX8_takeCompares_13 (by decide) ?_
    refine aw_icmp_eq 33 dX8_takeCompares_15 (by decide) ?_ ?_
    · refine aw_aload_n 0 dX8_takeCompares_33 rfl rfl ?_
      refine aw_aload_n 0 dX8_takeCompares_34 rfl rfl ?_
      refine aw_getf (fg_8_8 (by decide)) ci_8 (by decide) w_271 dX8_takeCompares_35 ?_
      refine aw_putI (fs_8_9 (by decide)) ci_8 (by decide) rfl rfl w_274 dX8_takeCompares_38 ?_
      refine aw_bndM (fun s_3 => ?_)
      refine aw_aload_n 0 dX8_takeCompares_41 rfl rfl ?_
      refine aw_callVW_U (c8_advance s_3 ) (io_8 (by decide)) ci_8 (by decide) mk_8_advance w_870 w_871 w_869 rfl rfl (Nat.le_of_ble_eq_true rfl) dX8_takeCompares_42 (fun _ s_4 => ?_)
      refine aw_iconst 1 dX8_takeCompares_45 (by decide) ?_
      exact aw_zreturn (b := true) rfl rfl dX8_takeCompares_46
    · refine aw_aload_n 0 dX8_takeCompares_18 rfl rfl ?_
      refine aw_getf (fg_8_8 (by decide)) ci_8 (by decide) w_271 dX8_takeCompares_19 ?_
      refine aw_bipush 61 dX8_takeCompares_22 (by decide) ?_
      refine aw_icmp_eq 33 dX8_takeCompares_24 (by decide) ?_ ?_
      · refine aw_aload_n 0 dX8_takeCompares_33 rfl rfl ?_
        refine aw_aload_n 0 dX8_takeCompares_34 rfl rfl ?_
        refine aw_getf (fg_8_8 (by decide)) ci_8 (by decide) w_271 dX8_takeCompares_35 ?_
        refine aw_putI (fs_8_9 (by decide)) ci_8 (by decide) rfl rfl w_274 dX8_takeCompares_38 ?_
        refine aw_bndM (fun s_5 => ?_)
        refine aw_aload_n 0 dX8_takeCompares_41 rfl rfl ?_
        refine aw_callVW_U (c8_advance s_5 ) (io_8 (by decide)) ci_8 (by decide) mk_8_advance w_870 w_871 w_869 rfl rfl (Nat.le_of_ble_eq_true rfl) dX8_takeCompares_42 (fun _ s_6 => ?_)
        refine aw_iconst 1 dX8_takeCompares_45 (by decide) ?_
        exact aw_zreturn (b := true) rfl rfl dX8_takeCompares_46
      · refine aw_aload_n 0 dX8_takeCompares_27 rfl rfl ?_
        refine aw_iconst 2 dX8_takeCompares_28 (by decide) ?_
        refine aw_callVW_B (c8_refuseHere σ 2) (io_8 (by decide)) ci_8 (by decide) mk_8_refuseHere w_900 w_901 w_908 rfl rfl (Nat.le_of_ble_eq_true rfl) dX8_takeCompares_29 (fun v_7 s_8 => ?_)
        exact aw_zreturn (b := v_7) rfl rfl dX8_takeCompares_32
def F5_parseTest_p96 (σ : Mem) (t0 : Nat) (x3 : Int32) (x4 : Int32) : Option (Bool × Mem) :=
  bd (F8_takeCompares σ) fun v_10 s_11 => if v_10 = true then (chk 60 x3 <| bnd (sI s_11 5 t0 3 (Int32.toNatClampNeg x3) (gI s_11 8 0 0 9)) fun s_12 => bd (F8_takeNumber s_12 0 x4) fun v_13 s_14 => if v_13 = true then (chk 60 x3 <| bnd (sI s_14 5 t0 4 (Int32.toNatClampNeg x3) (gI s_14 8 0 0 9)) fun s_15 => some (true, s_15)) else (some (false, s_14))) else (some (false, s_11))
set_option maxRecDepth 20000 in
theorem c5_parseTest_p96 {l : Launch} {D : va_G} {ad : Nat → Nat → Nat → Nat} {cid : Nat → Nat → Nat → ClassId} (σ : Mem) (t0 : Nat) (ht0 : t0 < 5) (x3 : Int32) (x4 : Int32) : AW (XC l D ad cid) M5_parseTest 4 eB [(0, .ref (ad 5 t0 0)), (1, .ref (ad 8 0 0)), (3, .int x3), (4, .int x4)] 96 [] σ ((F5_parseTest_p96 σ t0 x3 x4).bind some) := by
  unfold F5_parseTest_p96
  refine aw_aload_n 1 dX5_parseTest_96 rfl rfl ?_
  refine aw_callVW_B (c8_takeCompares σ ) (io_8 (by decide)) ci_8 (by decide) mk_8_takeCompares w_1025 w_1026 w_1024 rfl rfl (Nat.le_of_ble_eq_true rfl) dX5_parseTest_97 (fun v_10 s_11 => ?_)
  refine aw_bif_ne 105 dX5_parseTest_100 (by decide) ?_ ?_
  · refine aw_aload_n 0 dX5_parseTest_105 rfl rfl ?_
    refine aw_getf (fg_5_5 (by omega)) ci_5 (by decide) w_425 dX5_parseTest_106 ?_
    refine aw_iload_n 2 dX5_parseTest_109 rfl rfl ?_
    refine aw_aload_n 1 dX5_parseTest_110 rfl rfl ?_
    refine aw_getf (fg_8_9 (by decide)) ci_8 (by decide) w_273 dX5_parseTest_111 ?_
    refine aw_iastore (ar_5_3 (by omega)) dX5_parseTest_114 ?_
    refine aw_bndM (fun s_12 => ?_)
    refine aw_aload_n 1 dX5_parseTest_115 rfl rfl ?_
    refine aw_iconst 0 dX5_parseTest_116 (by decide) ?_
    refine aw_iload 3 dX5_parseTest_117 rfl ?_
    refine aw_callVW_B (c8_takeNumber s_12 0 x4) (io_8 (by decide)) ci_8 (by decide) mk_8_takeNumber w_905 w_906 w_1014 rfl rfl (Nat.le_of_ble_eq_true rfl) dX5_parseTest_119 (fun v_13 s_14 => ?_)
    refine aw_bif_ne 127 dX5_parseTest_122 (by decide) ?_ ?_
    · refine aw_aload_n 0 dX5_parseTest_127 rfl rfl ?_
      refine aw_getf (fg_5_6 (by omega)) ci_5 (by decide) w_427 dX5_parseTest_128 ?_
      refine aw_iload_n 2 dX5_parseTest_131 rfl rfl ?_
      refine aw_aload_n 1 dX5_parseTest_132 rfl rfl ?_
      refine aw_getf (fg_8_9 (by decide)) ci_8 (by decide) w_273 dX5_parseTest_133 ?_
      refine aw_iastore (ar_5_4 (by omega)) dX5_parseTest_136 ?_
      refine aw_bndM (fun s_15 => ?_)
      refine aw_iconst 1 dX5_parseTest_137 (by decide) ?_
      exact aw_zreturn (b := true) rfl rfl dX5_parseTest_138
    · refine aw_iconst 0 dX5_parseTest_125 (by decide) ?_
      exact aw_zreturn (b := false) rfl rfl dX5_parseTest_126
  · refine aw_iconst 0 dX5_parseTest_103 (by decide) ?_
    exact aw_zreturn (b := false) rfl rfl dX5_parseTest_104
def F5_parseTest (σ : Mem) (t0 : Nat) (t2 : Nat) (x3 : Int32) : Option (Bool × Mem) :=
  bd (F8_skipWord σ 24) fun v_1 s_2 => if v_1 = true then ((F9_findShooter s_2 t2 (gL s_2 8 0 0 6)).bind fun v_17 => chk 60 x3 <| bnd (sI s_2 5 t0 2 (Int32.toNatClampNeg x3) v_17) fun s_18 => (ald 60 (gI s_18 5 t0 2) x3).bind fun v_19 => bd (F5_takeKnownName s_18 v_19) fun v_20 s_21 => if v_20 = true then (F5_parseTest_p96 s_21 t0 x3 999) else (some (false, s_21))) else (bd (F8_skipWord s_2 25) fun v_3 s_4 => if v_3 = true then (chk 60 x3 <| bnd (sI s_4 5 t0 2 (Int32.toNatClampNeg x3) (-1)) fun s_16 => F5_parseTest_p96 s_16 t0 x3 60) else (bd (F8_skipWord s_4 26) fun v_5 s_6 => if v_5 = true then (chk 60 x3 <| bnd (sI s_6 5 t0 2 (Int32.toNatClampNeg x3) (-2)) fun s_9 => F5_parseTest_p96 s_9 t0 x3 20) else (bd (F8_refuseHere s_6 2) fun v_7 s_8 => some (v_7, s_8))))
set_option maxRecDepth 20000 in
theorem c5_parseTest {l : Launch} {D : va_G} {ad : Nat → Nat → Nat → Nat} {cid : Nat → Nat → Nat → ClassId} (σ : Mem) (t0 : Nat) (ht0 : t0 < 5) (t2 : Nat) (ht2 : t2 < 5) (x3 : Int32) : AMF (XC l D ad cid) M5_parseTest 4 eB [.ref (ad 5 t0 0), .ref (ad 8 0 0), .ref (ad 9 t2 0), .int x3] σ (F5_parseTest σ t0 t2 x3) := by
  refine AM.ofW (by decide +kernel) (Nat.le_of_ble_eq_true rfl) (ls := [(0, .ref (ad 5 t0 0)), (1, .ref (ad 8 0 0)), (2, .ref (ad 9 t2 0)), (3, .int x3)]) rfl ?_
  refine aw_entry ?_
  unfold F5_parseTest
  refine aw_aload_n 1 dX5_parseTest_0 rfl rfl ?_
  refine aw_bipush 24 dX5_parseTest_1 (by decide) ?_
  refine aw_callVW_B (c8_skipWord σ 24) (io_8 (by decide)) ci_8 (by decide) mk_8_skipWord w_914 w_915 w_1015 rfl rfl (Nat.le_of_ble_eq_true rfl) dX5_parseTest_3 (fun v_1 s_2 => ?_)
  refine aw_bif_eq 43 dX5_parseTest_6 (by decide) ?_ ?_
  · refine aw_aload_n 1 dX5_parseTest_43 rfl rfl ?_
    refine aw_bipush 25 dX5_parseTest_44 (by decide) ?_
    refine aw_callVW_B (c8_skipWord s_2 25) (io_8 (by decide)) ci_8 (by decide) mk_8_skipWord w_914 w_915 w_1015 rfl rfl (Nat.le_of_ble_eq_true rfl) dX5_parseTest_46 (fun v_3 s_4 => ?_)
    refine aw_bif_eq 66 dX5_parseTest_49 (by decide) ?_ ?_
    · refine aw_aload_n 1 dX5_parseTest_66 rfl rfl ?_
      refine aw_bipush 26 dX5_parseTest_67 (by decide) ?_
      refine aw_callVW_B (c8_skipWord s_4 26) (io_8 (by decide)) ci_8 (by decide) mk_8_skipWord w_914 w_915 w_1015 rfl rfl (Nat.le_of_ble_eq_true rfl) dX5_parseTest_69 (fun v_5 s_6 => ?_)
      refine aw_bif_eq 90 dX5_parseTest_72 (by decide) ?_ ?_
      · refine aw_aload_n 1 dX5_parseTest_90 rfl rfl ?_
        refine aw_iconst 2 dX5_parseTest_91 (by decide) ?_
        refine aw_callVW_B (c8_refuseHere s_6 2) (io_8 (by decide)) ci_8 (by decide) mk_8_refuseHere w_900 w_901 w_991 rfl rfl (Nat.le_of_ble_eq_true rfl) dX5_parseTest_92 (fun v_7 s_8 => ?_)
        exact aw_zreturn (b := v_7) rfl rfl dX5_parseTest_95
      · refine aw_bipush 20 dX5_parseTest_75 (by decide) ?_
        refine aw_istore (ls' := [(0, .ref (ad 5 t0 0)), (1, .ref (ad 8 0 0)), (3, .int x3), (4, .int 20)]) [1, 2, 4, 0] dX5_parseTest_77 (by decide) rfl ?_
        refine aw_aload_n 0 dX5_parseTest_79 rfl rfl ?_
        refine aw_getf (fg_5_4 (by omega)) ci_5 (by decide) w_423 dX5_parseTest_80 ?_
        refine aw_iload_n 2 dX5_parseTest_83 rfl rfl ?_
        refine aw_bipush (-2) dX5_parseTest_84 (by decide) ?_
        refine aw_iastore (ar_5_2 (by omega)) dX5_parseTest_86 ?_
        refine aw_bndM (fun s_9 => ?_)
        refine aw_goto 96 dX5_parseTest_87 (by decide) ?_
        exact c5_parseTest_p96 s_9 t0 (by omega) x3 20
    · refine aw_bipush 60 dX5_parseTest_52 (by decide) ?_
      refine aw_istore (ls' := [(0, .ref (ad 5 t0 0)), (1, .ref (ad 8 0 0)), (3, .int x3), (4, .int 60)]) [1, 2, 4, 0] dX5_parseTest_54 (by decide) rfl ?_
      refine aw_aload_n 0 dX5_parseTest_56 rfl rfl ?_
      refine aw_getf (fg_5_4 (by omega)) ci_5 (by decide) w_423 dX5_parseTest_57 ?_
      refine aw_iload_n 2 dX5_parseTest_60 rfl rfl ?_
      refine aw_iconst (-1) dX5_parseTest_61 (by decide) ?_
      refine aw_iastore (ar_5_2 (by omega)) dX5_parseTest_62 ?_
      refine aw_bndM (fun s_16 => ?_)
      refine aw_goto 96 dX5_parseTest_63 (by decide) ?_
      exact c5_parseTest_p96 s_16 t0 (by omega) x3 60
  · refine aw_sipush 999 dX5_parseTest_9 (by decide) ?_
    refine aw_istore (ls' := [(0, .ref (ad 5 t0 0)), (1, .ref (ad 8 0 0)), (2, .ref (ad 9 t2 0)), (3, .int x3), (4, .int 999)]) [1, 2, 3, 4, 0] dX5_parseTest_12 (by decide) rfl ?_
    refine aw_aload_n 0 dX5_parseTest_14 rfl rfl ?_
    refine aw_getf (fg_5_4 (by omega)) ci_5 (by decide) w_423 dX5_parseTest_15 ?_
    refine aw_iload_n 3 dX5_parseTest_18 rfl rfl ?_
    refine aw_aload_n 2 dX5_parseTest_19 rfl rfl ?_
    refine aw_aload_n 1 dX5_parseTest_20 rfl rfl ?_
    refine aw_getf (fg_8_6 (by decide)) ci_8 (by decide) w_268 dX5_parseTest_21 ?_
    refine aw_callVO_I (c9_findShooter s_2 t2 (by omega) (gL s_2 8 0 0 6)) (io_9 (by omega)) ci_9 (by decide) mk_9_findShooter w_951 w_952 w_1009 rfl rfl (Nat.le_of_ble_eq_true rfl) dX5_parseTest_24 (fun v_17 => ?_)
    refine aw_iastore (ar_5_2 (by omega)) dX5_parseTest_27 ?_
    refine aw_bndM (fun s_18 => ?_)
    refine aw_aload_n 1 dX5_parseTest_28 rfl rfl ?_
    refine aw_aload_n 0 dX5_parseTest_29 rfl rfl ?_
    refine aw_getf (fg_5_4 (by omega)) ci_5 (by decide) w_423 dX5_parseTest_30 ?_
    refine aw_iload_n 3 dX5_parseTest_33 rfl rfl ?_
    refine aw_iaload (ar_5_2 (by omega)) dX5_parseTest_34 (fun v_19 => ?_)
    refine aw_callSW_B (c5_takeKnownName s_18 v_19) (by decide) mk_5_takeKnownName w_1006 w_1005 rfl rfl (Nat.le_of_ble_eq_true rfl) dX5_parseTest_35 (fun v_20 s_21 => ?_)
    refine aw_bif_ne 96 dX5_parseTest_38 (by decide) ?_ ?_
    · refine aw_ls (ls' := [(0, .ref (ad 5 t0 0)), (1, .ref (ad 8 0 0)), (3, .int x3), (4, .int 999)]) [0, 1, 3, 4] rfl ?_
      exact c5_parseTest_p96 s_21 t0 (by omega) x3 999
    · refine aw_iconst 0 dX5_parseTest_41 (by decide) ?_
      exact aw_zreturn (b := false) rfl rfl dX5_parseTest_42
def F5_parseRest (σ : Mem) (t0 : Nat) (t2 : Nat) (x3 : Int32) (x4 : Int32) : Option (Bool × Mem) :=
  if x3 = 13 then (bd (F5_parseNumber σ t0 x4 1 40) fun v_2 s_3 => some (v_2, s_3)) else if x3 = 14 then (some (true, σ)) else if x3 = 15 then (some (true, σ)) else if x3 = 16 then (some (true, σ)) else if x3 = 17 then ((F9_findPea σ t2 (gL σ 8 0 0 6)).bind fun v_8 => chk 60 x4 <| bnd (sI σ 5 t0 2 (Int32.toNatClampNeg x4) v_8) fun s_9 => (ald 60 (gI s_9 5 t0 2) x4).bind fun v_10 => bd (F5_takeKnownName s_9 v_10) fun v_11 s_12 => some (v_11, s_12)) else if x3 = 18 then (bd (F5_parseAim σ t0 x4) fun v_14 s_15 => some (v_14, s_15)) else if x3 = 19 then (bd (F5_parseNumber σ t0 x4 0 3) fun v_17 s_18 => some (v_17, s_18)) else if x3 = 20 then ((F9_findShooter σ t2 (gL σ 8 0 0 6)).bind fun v_20 => chk 60 x4 <| bnd (sI σ 5 t0 2 (Int32.toNatClampNeg x4) v_20) fun s_21 => (ald 60 (gI s_21 5 t0 2) x4).bind fun v_22 => bd (F5_takeKnownName s_21 v_22) fun v_23 s_24 => some (v_23, s_24)) else if x3 = 21 then (some (true, σ)) else if x3 = 22 then (some (true, σ)) else if x3 = 23 then (bd (F5_parseTest σ t0 t2 x4) fun v_28 s_29 => some (v_28, s_29)) else if x3 = 24 then (some (true, σ)) else if x3 = 25 then (some (true, σ)) else if x3 = 26 then (some (true, σ)) else if x3 = 27 then (bd (F5_parseNumber σ t0 x4 1 99) fun v_34 s_35 => some (v_34, s_35)) else (some (true, σ))
set_option maxRecDepth 20000 in
theorem c5_parseRest {l : Launch} {D : va_G} {ad : Nat → Nat → Nat → Nat} {cid : Nat → Nat → Nat → ClassId} (σ : Mem) (t0 : Nat) (ht0 : t0 < 5) (t2 : Nat) (ht2 : t2 < 5) (x3 : Int32) (x4 : Int32) : AMF (XC l D ad cid) M5_parseRest 5 eB [.ref (ad 5 t0 0), .ref (ad 8 0 0), .ref (ad 9 t2 0), .int x3, .int x4] σ (F5_parseRest σ t0 t2 x3 x4) := by
  refine AM.ofW (by decide +kernel) (Nat.le_of_ble_eq_true rfl) (ls := [(0, .ref (ad 5 t0 0)), (1, .ref (ad 8 0 0)), (2, .ref (ad 9 t2 0)), (3, .int x3), (4, .int x4)]) rfl ?_
  refine aw_entry ?_
  unfold F5_parseRest
  refine aw_iload_n 3 dX5_parseRest_0 rfl rfl ?_
  refine aw_case (c := 13) (fun h_1 => ?_) (fun h_1 => ?_)
  · refine aw_tabIn 138 h_1 dX5_parseRest_1 (by decide) (by decide) rfl (by decide) ?_
    refine aw_aload_n 0 dX5_parseRest_138 rfl rfl ?_
    refine aw_aload_n 1 dX5_parseRest_139 rfl rfl ?_
    refine aw_iload 4 dX5_parseRest_140 rfl ?_
    refine aw_iconst 1 dX5_parseRest_142 (by decide) ?_
    refine aw_bipush 40 dX5_parseRest_143 (by decide) ?_
    refine aw_callVW_B (c5_parseNumber σ t0 (by omega) x4 1 40) (io_5 (by omega)) ci_5 (by decide) mk_5_parseNumber w_1018 w_20 w_1016 rfl rfl (Nat.le_of_ble_eq_true rfl) dX5_parseRest_145 (fun v_2 s_3 => ?_)
    exact aw_zreturn (b := v_2) rfl rfl dX5_parseRest_148
  refine aw_case (c := 14) (fun h_4 => ?_) (fun h_4 => ?_)
  · refine aw_tabIn 179 h_4 dX5_parseRest_1 (by decide) (by decide) rfl (by decide) ?_
    refine aw_iconst 1 dX5_parseRest_179 (by decide) ?_
    exact aw_zreturn (b := true) rfl rfl dX5_parseRest_180
  refine aw_case (c := 15) (fun h_5 => ?_) (fun h_5 => ?_)
  · refine aw_tabIn 179 h_5 dX5_parseRest_1 (by decide) (by decide) rfl (by decide) ?_
    refine aw_iconst 1 dX5_parseRest_179 (by decide) ?_
    exact aw_zreturn (b := true) rfl rfl dX5_parseRest_180
  refine aw_case (c := 16) (fun h_6 => ?_) (fun h_6 => ?_)
  · refine aw_tabIn 179 h_6 dX5_parseRest_1 (by decide) (by decide) rfl (by decide) ?_
    refine aw_iconst 1 dX5_parseRest_179 (by decide) ?_
    exact aw_zreturn (b := true) rfl rfl dX5_parseRest_180
  refine aw_case (c := 17) (fun h_7 => ?_) (fun h_7 => ?_)
  · refine aw_tabIn 76 h_7 dX5_parseRest_1 (by decide) (by decide) rfl (by decide) ?_
    refine aw_aload_n 0 dX5_parseRest_76 rfl rfl ?_
    refine aw_getf (fg_5_4 (by omega)) ci_5 (by decide) w_423 dX5_parseRest_77 ?_
    refine aw_iload 4 dX5_parseRest_80 rfl ?_
    refine aw_aload_n 2 dX5_parseRest_82 rfl rfl ?_
    refine aw_aload_n 1 dX5_parseRest_83 rfl rfl ?_
    refine aw_getf (fg_8_6 (by decide)) ci_8 (by decide) w_268 dX5_parseRest_84 ?_
    refine aw_callVO_I (c9_findPea σ t2 (by omega) (gL σ 8 0 0 6)) (io_9 (by omega)) ci_9 (by decide) mk_9_findPea w_947 w_948 w_1004 rfl rfl (Nat.le_of_ble_eq_true rfl) dX5_parseRest_87 (fun v_8 => ?_)
    refine aw_iastore (ar_5_2 (by omega)) dX5_parseRest_90 ?_
    refine aw_bndM (fun s_9 => ?_)
    refine aw_aload_n 1 dX5_parseRest_91 rfl rfl ?_
    refine aw_aload_n 0 dX5_parseRest_92 rfl rfl ?_
    refine aw_getf (fg_5_4 (by omega)) ci_5 (by decide) w_423 dX5_parseRest_93 ?_
    refine aw_iload 4 dX5_parseRest_96 rfl ?_
    refine aw_iaload (ar_5_2 (by omega)) dX5_parseRest_98 (fun v_10 => ?_)
    refine aw_callSW_B (c5_takeKnownName s_9 v_10) (by decide) mk_5_takeKnownName w_1006 w_1005 rfl rfl (Nat.le_of_ble_eq_true rfl) dX5_parseRest_99 (fun v_11 s_12 => ?_)
    exact aw_zreturn (b := v_11) rfl rfl dX5_parseRest_102
  refine aw_case (c := 18) (fun h_13 => ?_) (fun h_13 => ?_)
  · refine aw_tabIn 130 h_13 dX5_parseRest_1 (by decide) (by decide) rfl (by decide) ?_
    refine aw_aload_n 0 dX5_parseRest_130 rfl rfl ?_
    refine aw_aload_n 1 dX5_parseRest_131 rfl rfl ?_
    refine aw_iload 4 dX5_parseRest_132 rfl ?_
    refine aw_callVW_B (c5_parseAim σ t0 (by omega) x4) (io_5 (by omega)) ci_5 (by decide) mk_5_parseAim w_1012 w_19 w_1010 rfl rfl (Nat.le_of_ble_eq_true rfl) dX5_parseRest_134 (fun v_14 s_15 => ?_)
    exact aw_zreturn (b := v_14) rfl rfl dX5_parseRest_137
  refine aw_case (c := 19) (fun h_16 => ?_) (fun h_16 => ?_)
  · refine aw_tabIn 149 h_16 dX5_parseRest_1 (by decide) (by decide) rfl (by decide) ?_
    refine aw_aload_n 0 dX5_parseRest_149 rfl rfl ?_
    refine aw_aload_n 1 dX5_parseRest_150 rfl rfl ?_
    refine aw_iload 4 dX5_parseRest_151 rfl ?_
    refine aw_iconst 0 dX5_parseRest_153 (by decide) ?_
    refine aw_iconst 3 dX5_parseRest_154 (by decide) ?_
    refine aw_callVW_B (c5_parseNumber σ t0 (by omega) x4 0 3) (io_5 (by omega)) ci_5 (by decide) mk_5_parseNumber w_1018 w_20 w_1016 rfl rfl (Nat.le_of_ble_eq_true rfl) dX5_parseRest_155 (fun v_17 s_18 => ?_)
    exact aw_zreturn (b := v_17) rfl rfl dX5_parseRest_158
  refine aw_case (c := 20) (fun h_19 => ?_) (fun h_19 => ?_)
  · refine aw_tabIn 103 h_19 dX5_parseRest_1 (by decide) (by decide) rfl (by decide) ?_
    refine aw_aload_n 0 dX5_parseRest_103 rfl rfl ?_
    refine aw_getf (fg_5_4 (by omega)) ci_5 (by decide) w_423 dX5_parseRest_104 ?_
    refine aw_iload 4 dX5_parseRest_107 rfl ?_
    refine aw_aload_n 2 dX5_parseRest_109 rfl rfl ?_
    refine aw_aload_n 1 dX5_parseRest_110 rfl rfl ?_
    refine aw_getf (fg_8_6 (by decide)) ci_8 (by decide) w_268 dX5_parseRest_111 ?_
    refine aw_callVO_I (c9_findShooter σ t2 (by omega) (gL σ 8 0 0 6)) (io_9 (by omega)) ci_9 (by decide) mk_9_findShooter w_951 w_952 w_1009 rfl rfl (Nat.le_of_ble_eq_true rfl) dX5_parseRest_114 (fun v_20 => ?_)
    refine aw_iastore (ar_5_2 (by omega)) dX5_parseRest_117 ?_
    refine aw_bndM (fun s_21 => ?_)
    refine aw_aload_n 1 dX5_parseRest_118 rfl rfl ?_
    refine aw_aload_n 0 dX5_parseRest_119 rfl rfl ?_
    refine aw_getf (fg_5_4 (by omega)) ci_5 (by decide) w_423 dX5_parseRest_120 ?_
    refine aw_iload 4 dX5_parseRest_123 rfl ?_
    refine aw_iaload (ar_5_2 (by omega)) dX5_parseRest_125 (fun v_22 => ?_)
    refine aw_callSW_B (c5_takeKnownName s_21 v_22) (by decide) mk_5_takeKnownName w_1006 w_1005 rfl rfl (Nat.le_of_ble_eq_true rfl) dX5_parseRest_126 (fun v_23 s_24 => ?_)
    exact aw_zreturn (b := v_23) rfl rfl dX5_parseRest_129
  refine aw_case (c := 21) (fun h_25 => ?_) (fun h_25 => ?_)
  · refine aw_tabIn 179 h_25 dX5_parseRest_1 (by decide) (by decide) rfl (by decide) ?_
    refine aw_iconst 1 dX5_parseRest_179 (by decide) ?_
    exact aw_zreturn (b := true) rfl rfl dX5_parseRest_180
  refine aw_case (c := 22) (fun h_26 => ?_) (fun h_26 => ?_)
  · refine aw_tabIn 179 h_26 dX5_parseRest_1 (by decide) (by decide) rfl (by decide) ?_
    refine aw_iconst 1 dX5_parseRest_179 (by decide) ?_
    exact aw_zreturn (b := true) rfl rfl dX5_parseRest_180
  refine aw_case (c := 23) (fun h_27 => ?_) (fun h_27 => ?_)
  · refine aw_tabIn 170 h_27 dX5_parseRest_1 (by decide) (by decide) rfl (by decide) ?_
    refine aw_aload_n 0 dX5_parseRest_170 rfl rfl ?_
    refine aw_aload_n 1 dX5_parseRest_171 rfl rfl ?_
    refine aw_aload_n 2 dX5_parseRest_172 rfl rfl ?_
    refine aw_iload 4 dX5_parseRest_173 rfl ?_
    refine aw_callVW_B (c5_parseTest σ t0 (by omega) t2 (by omega) x4) (io_5 (by omega)) ci_5 (by decide) mk_5_parseTest w_1022 w_21 w_1020 rfl rfl (Nat.le_of_ble_eq_true rfl) dX5_parseRest_175 (fun v_28 s_29 => ?_)
    exact aw_zreturn (b := v_28) rfl rfl dX5_parseRest_178
  refine aw_case (c := 24) (fun h_30 => ?_) (fun h_30 => ?_)
  · refine aw_tabIn 179 h_30 dX5_parseRest_1 (by decide) (by decide) rfl (by decide) ?_
    refine aw_iconst 1 dX5_parseRest_179 (by decide) ?_
    exact aw_zreturn (b := true) rfl rfl dX5_parseRest_180
  refine aw_case (c := 25) (fun h_31 => ?_) (fun h_31 => ?_)
  · refine aw_tabIn 179 h_31 dX5_parseRest_1 (by decide) (by decide) rfl (by decide) ?_
    refine aw_iconst 1 dX5_parseRest_179 (by decide) ?_
    exact aw_zreturn (b := true) rfl rfl dX5_parseRest_180
  refine aw_case (c := 26) (fun h_32 => ?_) (fun h_32 => ?_)
  · refine aw_tabIn 179 h_32 dX5_parseRest_1 (by decide) (by decide) rfl (by decide) ?_
    refine aw_iconst 1 dX5_parseRest_179 (by decide) ?_
    exact aw_zreturn (b := true) rfl rfl dX5_parseRest_180
  refine aw_case (c := 27) (fun h_33 => ?_) (fun h_33 => ?_)
  · refine aw_tabIn 159 h_33 dX5_parseRest_1 (by decide) (by decide) rfl (by decide) ?_
    refine aw_aload_n 0 dX5_parseRest_159 rfl rfl ?_
    refine aw_aload_n 1 dX5_parseRest_160 rfl rfl ?_
    refine aw_iload 4 dX5_parseRest_161 rfl ?_
    refine aw_iconst 1 dX5_parseRest_163 (by decide) ?_
    refine aw_bipush 99 dX5_parseRest_164 (by decide) ?_
    refine aw_callVW_B (c5_parseNumber σ t0 (by omega) x4 1 99) (io_5 (by omega)) ci_5 (by decide) mk_5_parseNumber w_1018 w_20 w_1016 rfl rfl (Nat.le_of_ble_eq_true rfl) dX5_parseRest_166 (fun v_34 s_35 => ?_)
    exact aw_zreturn (b := v_34) rfl rfl dX5_parseRest_169
  refine aw_tabOut 179 dX5_parseRest_1 (by have eh_1 : x3.toInt ≠ 13 := ne_toInt h_1; have eh_4 : x3.toInt ≠ 14 := ne_toInt h_4; have eh_5 : x3.toInt ≠ 15 := ne_toInt h_5; have eh_6 : x3.toInt ≠ 16 := ne_toInt h_6; have eh_7 : x3.toInt ≠ 17 := ne_toInt h_7; have eh_13 : x3.toInt ≠ 18 := ne_toInt h_13; have eh_16 : x3.toInt ≠ 19 := ne_toInt h_16; have eh_19 : x3.toInt ≠ 20 := ne_toInt h_19; have eh_25 : x3.toInt ≠ 21 := ne_toInt h_25; have eh_26 : x3.toInt ≠ 22 := ne_toInt h_26; have eh_27 : x3.toInt ≠ 23 := ne_toInt h_27; have eh_30 : x3.toInt ≠ 24 := ne_toInt h_30; have eh_31 : x3.toInt ≠ 25 := ne_toInt h_31; have eh_32 : x3.toInt ≠ 26 := ne_toInt h_32; have eh_33 : x3.toInt ≠ 27 := ne_toInt h_33; omega) (by decide) ?_
  refine aw_iconst 1 dX5_parseRest_179 (by decide) ?_
  exact aw_zreturn (b := true) rfl rfl dX5_parseRest_180
def F5_parse_p97 (σ : Mem) (t0 : Nat) : Option (Bool × Mem) :=
  if (gI σ 5 t0 0 8) = 0 then (some (true, σ)) else (bd (F8_refuseHere σ 2) fun v_2 s_3 => if v_2 = true then (some (true, s_3)) else (some (false, s_3)))
set_option maxRecDepth 20000 in
theorem c5_parse_p97 {l : Launch} {D : va_G} {ad : Nat → Nat → Nat → Nat} {cid : Nat → Nat → Nat → ClassId} (σ : Mem) (t0 : Nat) (ht0 : t0 < 5) : AW (XC l D ad cid) M5_parse 6 eB [(0, .ref (ad 5 t0 0)), (1, .ref (ad 8 0 0))] 97 [] σ ((F5_parse_p97 σ t0).bind some) := by
  unfold F5_parse_p97
  refine aw_aload_n 0 dX5_parse_97 rfl rfl ?_
  refine aw_getf (fg_5_8 (by omega)) ci_5 (by decide) w_431 dX5_parse_98 ?_
  refine aw_if_eq 112 dX5_parse_101 (by decide) ?_ ?_
  · refine aw_iconst 1 dX5_parse_112 (by decide) ?_
    refine aw_goto 117 dX5_parse_113 (by decide) ?_
    exact aw_zreturn (b := true) rfl rfl dX5_parse_117
  · refine aw_aload_n 1 dX5_parse_104 rfl rfl ?_
    refine aw_iconst 2 dX5_parse_105 (by decide) ?_
    refine aw_callVW_B (c8_refuseHere σ 2) (io_8 (by decide)) ci_8 (by decide) mk_8_refuseHere w_900 w_901 w_991 rfl rfl (Nat.le_of_ble_eq_true rfl) dX5_parse_106 (fun v_2 s_3 => ?_)
    refine aw_bif_eq 116 dX5_parse_109 (by decide) ?_ ?_
    · refine aw_iconst 0 dX5_parse_116 (by decide) ?_
      exact aw_zreturn (b := false) rfl rfl dX5_parse_117
    · refine aw_iconst 1 dX5_parse_112 (by decide) ?_
      refine aw_goto 117 dX5_parse_113 (by decide) ?_
      exact aw_zreturn (b := true) rfl rfl dX5_parse_117
def F5_parse_p75 (rc : Mem → Int32 → Option (Bool × Mem)) (σ : Mem) (t0 : Nat) (t2 : Nat) (x3 : Int32) (q0 : Bool) : Option (Bool × Mem) :=
  if q0 = true then (bd (F8_takeSemicolon σ) fun v_8 s_9 => if v_8 = true then (rc s_9 (x3 + 1)) else (some (false, s_9))) else (some (false, σ))
set_option maxRecDepth 20000 in
theorem c5_parse_p75 {l : Launch} {D : va_G} {ad : Nat → Nat → Nat → Nat} {cid : Nat → Nat → Nat → ClassId}  (t0 : Nat) (ht0 : t0 < 5) (t2 : Nat) (ht2 : t2 < 5) {rc : Mem → Int32 → Option (Bool × Mem)} (ih : ∀ (σ : Mem) (x3 : Int32), AW (XC l D ad cid) M5_parse 6 eB [(0, .ref (ad 5 t0 0)), (1, .ref (ad 8 0 0)), (2, .ref (ad 9 t2 0)), (3, .int x3)] 6 [] σ ((rc σ x3).bind some)) (σ : Mem) (x3 : Int32) (q0 : Bool) : AW (XC l D ad cid) M5_parse 6 eB [(0, .ref (ad 5 t0 0)), (1, .ref (ad 8 0 0)), (2, .ref (ad 9 t2 0)), (3, .int x3)] 75 [.int (b2i q0)] σ ((F5_parse_p75 rc σ t0 t2 x3 q0).bind some) := by
  unfold F5_parse_p75
  refine aw_istore (ls' := [(0, .ref (ad 5 t0 0)), (1, .ref (ad 8 0 0)), (2, .ref (ad 9 t2 0)), (3, .int x3), (6, .int (b2i q0))]) [1, 2, 3, 4, 0] dX5_parse_75 (by decide) rfl ?_
  refine aw_iload 4 dX5_parse_77 rfl ?_
  refine aw_bif_eq 89 dX5_parse_79 (by decide) ?_ ?_
  · refine aw_iconst 0 dX5_parse_89 (by decide) ?_
    exact aw_zreturn (b := false) rfl rfl dX5_parse_90
  · refine aw_aload_n 1 dX5_parse_82 rfl rfl ?_
    refine aw_callVW_B (c8_takeSemicolon σ ) (io_8 (by decide)) ci_8 (by decide) mk_8_takeSemicolon w_918 w_919 w_1028 rfl rfl (Nat.le_of_ble_eq_true rfl) dX5_parse_83 (fun v_8 s_9 => ?_)
    refine aw_bif_ne 91 dX5_parse_86 (by decide) ?_ ?_
    · refine aw_iinc (ls' := [(0, .ref (ad 5 t0 0)), (1, .ref (ad 8 0 0)), (2, .ref (ad 9 t2 0)), (3, .int (x3 + 1))]) (x3 + 1) 3 [1, 2, 3, 0] dX5_parse_91 rfl (by rfl) (by decide) rfl ?_
      refine aw_goto 6 dX5_parse_94 (by decide) ?_
      exact ih s_9 (x3 + 1)
    · refine aw_iconst 0 dX5_parse_89 (by decide) ?_
      exact aw_zreturn (b := false) rfl rfl dX5_parse_90
def F5_parse_L6 (t0 : Nat) (t2 : Nat) : Nat → Mem → Int32 → Option (Bool × Mem)
  | 0 => fun _ _ => none
  | n + 1 => fun σ x3 =>
    if 300 ≤ x3 then (F5_parse_p97 σ t0) else (if (gI σ 8 0 0 4) = 0 then (F5_parse_p97 σ t0) else (bnd (gI σ 8 0 0 5) fun v_4 => bnd (gI σ 5 t0 0 2) fun v_5 => if v_4 = 28 then (bd (F5_ends σ t0) fun v_12 s_13 => F5_parse_p75 (F5_parse_L6 t0 t2 n) s_13 t0 t2 x3 v_12) else (bd (F5_begins σ t0 v_4) fun v_6 s_7 => if v_6 = true then (bd (F5_parseRest s_7 t0 t2 v_4 v_5) fun v_10 s_11 => if v_10 = true then (F5_parse_p75 (F5_parse_L6 t0 t2 n) s_11 t0 t2 x3 true) else (F5_parse_p75 (F5_parse_L6 t0 t2 n) s_11 t0 t2 x3 false)) else (F5_parse_p75 (F5_parse_L6 t0 t2 n) s_7 t0 t2 x3 false))))
set_option maxRecDepth 20000 in
theorem c5_parse_L6 {l : Launch} {D : va_G} {ad : Nat → Nat → Nat → Nat} {cid : Nat → Nat → Nat → ClassId} (t0 : Nat) (ht0 : t0 < 5) (t2 : Nat) (ht2 : t2 < 5) : ∀ (n : Nat) (σ : Mem) (x3 : Int32), AW (XC l D ad cid) M5_parse 6 eB [(0, .ref (ad 5 t0 0)), (1, .ref (ad 8 0 0)), (2, .ref (ad 9 t2 0)), (3, .int x3)] 6 [] σ ((F5_parse_L6 t0 t2 n σ x3).bind some) := by
  intro n
  induction n with
  | zero => intros; exact aw_none
  | succ n ih =>
    intro σ x3
    rw [F5_parse_L6.eq_2]
    refine aw_iload_n 3 dX5_parse_6 rfl rfl ?_
    refine aw_sipush 300 dX5_parse_7 (by decide) ?_
    refine aw_icmp_ge 97 dX5_parse_10 (by decide) ?_ ?_
    · refine aw_ls (ls' := [(0, .ref (ad 5 t0 0)), (1, .ref (ad 8 0 0))]) [0, 1] rfl ?_
      exact c5_parse_p97 σ t0 (by omega)
    · refine aw_aload_n 1 dX5_parse_13 rfl rfl ?_
      refine aw_getf (fg_8_4 (by decide)) ci_8 (by decide) w_263 dX5_parse_14 ?_
      refine aw_if_eq 97 dX5_parse_17 (by decide) ?_ ?_
      · refine aw_ls (ls' := [(0, .ref (ad 5 t0 0)), (1, .ref (ad 8 0 0))]) [0, 1] rfl ?_
        exact c5_parse_p97 σ t0 (by omega)
      · refine aw_aload_n 1 dX5_parse_20 rfl rfl ?_
        refine aw_getf (fg_8_5 (by decide)) ci_8 (by decide) w_265 dX5_parse_21 ?_
        refine aw_bnd_int (fun v_4 => ?_)
        refine aw_istore (ls' := [(0, .ref (ad 5 t0 0)), (1, .ref (ad 8 0 0)), (2, .ref (ad 9 t2 0)), (3, .int x3), (4, .int v_4)]) [1, 2, 3, 4, 0] dX5_parse_24 (by decide) rfl ?_
        refine aw_aload_n 0 dX5_parse_26 rfl rfl ?_
        refine aw_getf (fg_5_2 (by omega)) ci_5 (by decide) w_419 dX5_parse_27 ?_
        refine aw_bnd_int (fun v_5 => ?_)
        refine aw_istore (ls' := [(0, .ref (ad 5 t0 0)), (1, .ref (ad 8 0 0)), (2, .ref (ad 9 t2 0)), (3, .int x3), (4, .int v_4), (5, .int v_5)]) [1, 2, 3, 4, 5, 0] dX5_parse_30 (by decide) rfl ?_
        refine aw_iload 4 dX5_parse_32 rfl ?_
        refine aw_bipush 28 dX5_parse_34 (by decide) ?_
        refine aw_icmp_ne 47 dX5_parse_36 (by decide) ?_ ?_
        · refine aw_aload_n 0 dX5_parse_47 rfl rfl ?_
          refine aw_aload_n 1 dX5_parse_48 rfl rfl ?_
          refine aw_iload 4 dX5_parse_49 rfl ?_
          refine aw_callVW_B (c5_begins σ t0 (by omega) v_4) (io_5 (by omega)) ci_5 (by decide) mk_5_begins w_995 w_17 w_993 rfl rfl (Nat.le_of_ble_eq_true rfl) dX5_parse_51 (fun v_6 s_7 => ?_)
          refine aw_bif_eq 74 dX5_parse_54 (by decide) ?_ ?_
          · refine aw_iconst 0 dX5_parse_74 (by decide) ?_
            refine aw_ls (ls' := [(0, .ref (ad 5 t0 0)), (1, .ref (ad 8 0 0)), (2, .ref (ad 9 t2 0)), (3, .int x3)]) [0, 1, 2, 3] rfl ?_
            exact c5_parse_p75 t0 ht0 t2 ht2 ih s_7 x3 false
          · refine aw_aload_n 0 dX5_parse_57 rfl rfl ?_
            refine aw_aload_n 1 dX5_parse_58 rfl rfl ?_
            refine aw_aload_n 2 dX5_parse_59 rfl rfl ?_
            refine aw_iload 4 dX5_parse_60 rfl ?_
            refine aw_iload 5 dX5_parse_62 rfl ?_
            refine aw_callVW_B (c5_parseRest s_7 t0 (by omega) t2 (by omega) v_4 v_5) (io_5 (by omega)) ci_5 (by decide) mk_5_parseRest w_1002 w_18 w_1000 rfl rfl (Nat.le_of_ble_eq_true rfl) dX5_parse_64 (fun v_10 s_11 => ?_)
            refine aw_bif_eq 74 dX5_parse_67 (by decide) ?_ ?_
            · refine aw_iconst 0 dX5_parse_74 (by decide) ?_
              refine aw_ls (ls' := [(0, .ref (ad 5 t0 0)), (1, .ref (ad 8 0 0)), (2, .ref (ad 9 t2 0)), (3, .int x3)]) [0, 1, 2, 3] rfl ?_
              exact c5_parse_p75 t0 ht0 t2 ht2 ih s_11 x3 false
            · refine aw_iconst 1 dX5_parse_70 (by decide) ?_
              refine aw_goto 75 dX5_parse_71 (by decide) ?_
              refine aw_ls (ls' := [(0, .ref (ad 5 t0 0)), (1, .ref (ad 8 0 0)), (2, .ref (ad 9 t2 0)), (3, .int x3)]) [0, 1, 2, 3] rfl ?_
              exact c5_parse_p75 t0 ht0 t2 ht2 ih s_11 x3 true
        · refine aw_aload_n 0 dX5_parse_39 rfl rfl ?_
          refine aw_aload_n 1 dX5_parse_40 rfl rfl ?_
          refine aw_callVW_B (c5_ends σ t0 (by omega)) (io_5 (by omega)) ci_5 (by decide) mk_5_ends w_989 w_16 w_987 rfl rfl (Nat.le_of_ble_eq_true rfl) dX5_parse_41 (fun v_12 s_13 => ?_)
          refine aw_goto 75 dX5_parse_44 (by decide) ?_
          refine aw_ls (ls' := [(0, .ref (ad 5 t0 0)), (1, .ref (ad 8 0 0)), (2, .ref (ad 9 t2 0)), (3, .int x3)]) [0, 1, 2, 3] rfl ?_
          exact c5_parse_p75 t0 ht0 t2 ht2 ih s_13 x3 v_12
def F5_parse (σ : Mem) (t0 : Nat) (t2 : Nat) : Option (Bool × Mem) :=
  bd (F5_clear σ t0) fun _ s_1 => F5_parse_L6 t0 t2 fuelK s_1 0
set_option maxRecDepth 20000 in
theorem c5_parse {l : Launch} {D : va_G} {ad : Nat → Nat → Nat → Nat} {cid : Nat → Nat → Nat → ClassId} (σ : Mem) (t0 : Nat) (ht0 : t0 < 5) (t2 : Nat) (ht2 : t2 < 5) : AMF (XC l D ad cid) M5_parse 6 eB [.ref (ad 5 t0 0), .ref (ad 8 0 0), .ref (ad 9 t2 0)] σ (F5_parse σ t0 t2) := by
  refine AM.ofW (by decide +kernel) (Nat.le_of_ble_eq_true rfl) (ls := [(0, .ref (ad 5 t0 0)), (1, .ref (ad 8 0 0)), (2, .ref (ad 9 t2 0))]) rfl ?_
  refine aw_entry ?_
  unfold F5_parse
  refine aw_aload_n 0 dX5_parse_0 rfl rfl ?_
  refine aw_callVW_U (c5_clear σ t0 (by omega)) (io_5 (by omega)) ci_5 (by decide) mk_5_clear w_970 w_971 w_986 rfl rfl (Nat.le_of_ble_eq_true rfl) dX5_parse_1 (fun _ s_1 => ?_)
  refine aw_iconst 0 dX5_parse_4 (by decide) ?_
  refine aw_istore_n (ls' := [(0, .ref (ad 5 t0 0)), (1, .ref (ad 8 0 0)), (2, .ref (ad 9 t2 0)), (3, .int 0)]) [1, 2, 3, 0] dX5_parse_5 rfl (by decide) rfl ?_
  exact c5_parse_L6 t0 (by omega) t2 (by omega) fuelK s_1 0
def F11_round (σ : Mem) (x1 : Int32) : Option (Int32 × Mem) :=
  if (F11_within x1 0 (iMin (gI σ 8 0 0 1) 300)) = true then (bd (F8_begin σ x1) fun _ s_1 => gd 5 (gR s_1 11 0 0 8) fun t_2 => gd 5 (gR s_1 11 0 0 5) fun t_3 => bd (F5_parse s_1 t_2 t_3) fun v_4 s_5 => bnd (sI s_5 8 0 0 1 0) fun s_6 => if v_4 = true then (gd 5 (gR s_6 11 0 0 7) fun t_7 => gd 5 (gR s_6 11 0 0 8) fun t_8 => bnd (sR s_6 11 0 0 7 t_8) fun s_9 => bnd (sR s_9 11 0 0 8 t_7) fun s_10 => gd 5 (gR s_10 11 0 0 7) fun t_11 => bnd (sB s_10 5 t_11 0 0 true) fun s_12 => gd 5 (gR s_12 11 0 0 7) fun t_13 => bd (F11_answer s_12 (gI s_12 5 t_13 0 1)) fun v_14 s_15 => some (v_14, s_15)) else (bd (F11_refuse s_6 10) fun v_16 s_17 => some (v_16, s_17))) else (bd (F11_refuse σ 5) fun v_18 s_19 => some (v_18, s_19))
set_option maxRecDepth 20000 in
theorem c11_round {l : Launch} {D : va_G} {ad : Nat → Nat → Nat → Nat} {cid : Nat → Nat → Nat → ClassId} (σ : Mem) (x1 : Int32) : AMF (XC l D ad cid) M11_round 7 eI [.ref (ad 11 0 0), .int x1] σ (F11_round σ x1) := by
  refine AM.ofW (by decide +kernel) (Nat.le_of_ble_eq_true rfl) (ls := [(0, .ref (ad 11 0 0)), (1, .int x1)]) rfl ?_
  refine aw_entry ?_
  unfold F11_round
  refine aw_iload_n 1 dX11_round_0 rfl rfl ?_
  refine aw_iconst 0 dX11_round_1 (by decide) ?_
  refine aw_aload_n 0 dX11_round_2 rfl rfl ?_
  refine aw_getf (fg_11_4 (by decide)) ci_11 (by decide) w_721 dX11_round_3 ?_
  refine aw_getf (fg_8_1 (by decide)) ci_8 (by decide) w_256 dX11_round_6 ?_
  refine aw_sipush 300 dX11_round_9 (by decide) ?_
  refine aw_min w_981 w_864 w_159 w_865 (Nat.le_of_ble_eq_true rfl) dX11_round_12 ?_
  refine aw_callST_B (c11_within σ x1 0 (iMin (gI σ 8 0 0 1) 300)) (by decide) mk_11_within w_798 w_797 rfl rfl (Nat.le_of_ble_eq_true rfl) dX11_round_15 ?_
  refine aw_bif_ne 27 dX11_round_18 (by decide) ?_ ?_
  · refine aw_aload_n 0 dX11_round_27 rfl rfl ?_
    refine aw_getf (fg_11_4 (by decide)) ci_11 (by decide) w_721 dX11_round_28 ?_
    refine aw_iload_n 1 dX11_round_31 rfl rfl ?_
    refine aw_callVW_U (c8_begin σ x1) (io_8 (by decide)) ci_8 (by decide) mk_8_begin w_860 w_861 w_859 rfl rfl (Nat.le_of_ble_eq_true rfl) dX11_round_32 (fun _ s_1 => ?_)
    refine aw_aload_n 0 dX11_round_35 rfl rfl ?_
    refine aw_getf (fg_11_8 (by decide)) ci_11 (by decide) w_725 dX11_round_36 ?_
    refine aw_gd (n := 5) (fun t_2 ht_2 => ?_)
    refine aw_aload_n 0 dX11_round_39 rfl rfl ?_
    refine aw_getf (fg_11_4 (by decide)) ci_11 (by decide) w_721 dX11_round_40 ?_
    refine aw_aload_n 0 dX11_round_43 rfl rfl ?_
    refine aw_getf (fg_11_5 (by decide)) ci_11 (by decide) w_722 dX11_round_44 ?_
    refine aw_gd (n := 5) (fun t_3 ht_3 => ?_)
    refine aw_callVW_B (c5_parse s_1 t_2 (by omega) t_3 (by omega)) (io_5 (by omega)) ci_5 (by decide) mk_5_parse w_983 w_984 w_982 rfl rfl (Nat.le_of_ble_eq_true rfl) dX11_round_47 (fun v_4 s_5 => ?_)
    refine aw_istore_n (ls' := [(0, .ref (ad 11 0 0)), (2, .int (b2i v_4))]) [1, 0] dX11_round_50 rfl (by decide) rfl ?_
    refine aw_aload_n 0 dX11_round_51 rfl rfl ?_
    refine aw_getf (fg_11_4 (by decide)) ci_11 (by decide) w_721 dX11_round_52 ?_
    refine aw_iconst 0 dX11_round_55 (by decide) ?_
    refine aw_putI (fs_8_1 (by decide)) ci_8 (by decide) rfl rfl w_256 dX11_round_56 ?_
    refine aw_bndM (fun s_6 => ?_)
    refine aw_iload_n 1 dX11_round_59 rfl rfl ?_
    refine aw_bif_ne 70 dX11_round_60 (by decide) ?_ ?_
    · refine aw_aload_n 0 dX11_round_70 rfl rfl ?_
      refine aw_getf (fg_11_7 (by decide)) ci_11 (by decide) w_724 dX11_round_71 ?_
      refine aw_gd (n := 5) (fun t_7 ht_7 => ?_)
      refine aw_astore_n (ls' := [(0, .ref (ad 11 0 0)), (3, .ref (ad 5 t_7 0))]) [1, 0] dX11_round_74 rfl (by decide) rfl ?_
      refine aw_aload_n 0 dX11_round_75 rfl rfl ?_
      refine aw_aload_n 0 dX11_round_76 rfl rfl ?_
      refine aw_getf (fg_11_8 (by decide)) ci_11 (by decide) w_725 dX11_round_77 ?_
      refine aw_gd (n := 5) (fun t_8 ht_8 => ?_)
      refine aw_putR (fs_11_7 (by decide)) ci_11 (by decide) rfl rfl w_724 dX11_round_80 ?_
      refine aw_bndM (fun s_9 => ?_)
      refine aw_aload_n 0 dX11_round_83 rfl rfl ?_
      refine aw_aload_n 1 dX11_round_84 rfl rfl ?_
      refine aw_putR (fs_11_8 (by decide)) ci_11 (by decide) rfl rfl w_725 dX11_round_85 ?_
      refine aw_bndM (fun s_10 => ?_)
      refine aw_aload_n 0 dX11_round_88 rfl rfl ?_
      refine aw_getf (fg_11_7 (by decide)) ci_11 (by decide) w_724 dX11_round_89 ?_
      refine aw_gd (n := 5) (fun t_11 ht_11 => ?_)
      refine aw_iconst 1 dX11_round_92 (by decide) ?_
      refine aw_putB (v := true) rfl (fs_5_0 (by omega)) ci_5 (by decide) rfl rfl w_416 dX11_round_93 ?_
      refine aw_bndM (fun s_12 => ?_)
      refine aw_aload_n 0 dX11_round_96 rfl rfl ?_
      refine aw_aload_n 0 dX11_round_97 rfl rfl ?_
      refine aw_getf (fg_11_7 (by decide)) ci_11 (by decide) w_724 dX11_round_98 ?_
      refine aw_gd (n := 5) (fun t_13 ht_13 => ?_)
      refine aw_getf (fg_5_1 (by omega)) ci_5 (by decide) w_418 dX11_round_101 ?_
      refine aw_callVW_I (c11_answer s_12 (gI s_12 5 t_13 0 1)) (io_11 (by decide)) ci_11 (by decide) mk_11_answer w_975 w_15 w_973 rfl rfl (Nat.le_of_ble_eq_true rfl) dX11_round_104 (fun v_14 s_15 => ?_)
      exact aw_ireturn rfl dX11_round_107
    · refine aw_aload_n 0 dX11_round_63 rfl rfl ?_
      refine aw_bipush 10 dX11_round_64 (by decide) ?_
      refine aw_callVW_I (c11_refuse s_6 10) (io_11 (by decide)) ci_11 (by decide) mk_11_refuse w_838 w_3 w_836 rfl rfl (Nat.le_of_ble_eq_true rfl) dX11_round_66 (fun v_16 s_17 => ?_)
      exact aw_ireturn rfl dX11_round_69
  · refine aw_aload_n 0 dX11_round_21 rfl rfl ?_
    refine aw_iconst 5 dX11_round_22 (by decide) ?_
    refine aw_callVW_I (c11_refuse σ 5) (io_11 (by decide)) ci_11 (by decide) mk_11_refuse w_838 w_3 w_836 rfl rfl (Nat.le_of_ble_eq_true rfl) dX11_round_23 (fun v_18 s_19 => ?_)
    exact aw_ireturn rfl dX11_round_26
def F11_fault (σ : Mem) (x1 : Int32) : Int32 :=
  if x1 = 0 then ((gI σ 8 0 0 2)) else (if x1 = 1 then ((gI σ 8 0 0 3)) else ((-1)))
set_option maxRecDepth 20000 in
theorem c11_fault {l : Launch} {D : va_G} {ad : Nat → Nat → Nat → Nat} {cid : Nat → Nat → Nat → ClassId} (σ : Mem) (x1 : Int32) : AMF (XC l D ad cid) M11_fault 0 eI [.ref (ad 11 0 0), .int x1] σ (some (F11_fault σ x1, σ)) := by
  refine AM.ofW (by decide +kernel) (Nat.le_of_ble_eq_true rfl) (ls := [(0, .ref (ad 11 0 0)), (1, .int x1)]) rfl ?_
  refine aw_entryT ?_
  unfold F11_fault
  refine aw_iload_n 1 dX11_fault_0 rfl rfl ?_
  refine aw_iteT ?_
  refine aw_if_ne 12 dX11_fault_1 (by decide) ?_ ?_
  · refine aw_iload_n 1 dX11_fault_12 rfl rfl ?_
    refine aw_iconst 1 dX11_fault_13 (by decide) ?_
    refine aw_iteT ?_
    refine aw_icmp_ne 27 dX11_fault_14 (by decide) ?_ ?_
    · refine aw_iconst (-1) dX11_fault_27 (by decide) ?_
      exact aw_ireturn rfl dX11_fault_28
    · refine aw_aload_n 0 dX11_fault_17 rfl rfl ?_
      refine aw_getf (fg_11_4 (by decide)) ci_11 (by decide) w_721 dX11_fault_18 ?_
      refine aw_getf (fg_8_3 (by decide)) ci_8 (by decide) w_260 dX11_fault_21 ?_
      refine aw_goto 28 dX11_fault_24 (by decide) ?_
      exact aw_ireturn rfl dX11_fault_28
  · refine aw_aload_n 0 dX11_fault_4 rfl rfl ?_
    refine aw_getf (fg_11_4 (by decide)) ci_11 (by decide) w_721 dX11_fault_5 ?_
    refine aw_getf (fg_8_2 (by decide)) ci_8 (by decide) w_258 dX11_fault_8 ?_
    exact aw_ireturn rfl dX11_fault_11
def F11_many (σ : Mem) (x1 : Int32) : Option (Int32 × Mem) :=
  if x1 = 0 then (gd 5 (gR σ 11 0 0 5) fun t_2 => bd (F11_answer σ (gI σ 9 t_2 0 0)) fun v_3 s_4 => some (v_3, s_4)) else if x1 = 1 then (gd 5 (gR σ 11 0 0 5) fun t_6 => bd (F11_answer σ (gI σ 9 t_6 0 1)) fun v_7 s_8 => some (v_7, s_8)) else if x1 = 2 then (gd 5 (gR σ 11 0 0 5) fun t_10 => bd (F11_answer σ (gI σ 9 t_10 0 2)) fun v_11 s_12 => some (v_11, s_12)) else if x1 = 3 then (gd 5 (gR σ 11 0 0 5) fun t_14 => bd (F11_answer σ (gI σ 9 t_14 0 3)) fun v_15 s_16 => some (v_15, s_16)) else if x1 = 4 then (gd 5 (gR σ 11 0 0 5) fun t_18 => bd (F11_answer σ (gI σ 9 t_18 0 4)) fun v_19 s_20 => some (v_19, s_20)) else if x1 = 5 then (gd 5 (gR σ 11 0 0 5) fun t_22 => bd (F11_answer σ (gI σ 9 t_22 0 7)) fun v_23 s_24 => some (v_23, s_24)) else if x1 = 6 then (gd 5 (gR σ 11 0 0 5) fun t_26 => bd (F11_answer σ (gI σ 9 t_26 0 13)) fun v_27 s_28 => some (v_27, s_28)) else if x1 = 7 then (bd (F11_answer σ (gI σ 7 0 0 0)) fun v_30 s_31 => some (v_30, s_31)) else if x1 = 8 then (bd (F11_answer σ (gI σ 7 0 0 1)) fun v_33 s_34 => some (v_33, s_34)) else (bd (F11_refuse σ 5) fun v_35 s_36 => some (v_35, s_36))
set_option maxRecDepth 20000 in
theorem c11_many {l : Launch} {D : va_G} {ad : Nat → Nat → Nat → Nat} {cid : Nat → Nat → Nat → ClassId} (σ : Mem) (x1 : Int32) : AMF (XC l D ad cid) M11_many 1 eI [.ref (ad 11 0 0), .int x1] σ (F11_many σ x1) := by
  refine AM.ofW (by decide +kernel) (Nat.le_of_ble_eq_true rfl) (ls := [(0, .ref (ad 11 0 0)), (1, .int x1)]) rfl ?_
  refine aw_entry ?_
  unfold F11_many
  refine aw_iload_n 1 dX11_many_0 rfl rfl ?_
  refine aw_case (c := 0) (fun h_1 => ?_) (fun h_1 => ?_)
  · refine aw_tabIn 52 h_1 dX11_many_1 (by decide) (by decide) rfl (by decide) ?_
    refine aw_aload_n 0 dX11_many_52 rfl rfl ?_
    refine aw_aload_n 0 dX11_many_53 rfl rfl ?_
    refine aw_getf (fg_11_5 (by decide)) ci_11 (by decide) w_722 dX11_many_54 ?_
    refine aw_gd (n := 5) (fun t_2 ht_2 => ?_)
    refine aw_getf (fg_9_0 (by omega)) ci_9 (by decide) w_321 dX11_many_57 ?_
    refine aw_callVW_I (c11_answer σ (gI σ 9 t_2 0 0)) (io_11 (by decide)) ci_11 (by decide) mk_11_answer w_975 w_15 w_973 rfl rfl (Nat.le_of_ble_eq_true rfl) dX11_many_60 (fun v_3 s_4 => ?_)
    exact aw_ireturn rfl dX11_many_63
  refine aw_case (c := 1) (fun h_5 => ?_) (fun h_5 => ?_)
  · refine aw_tabIn 64 h_5 dX11_many_1 (by decide) (by decide) rfl (by decide) ?_
    refine aw_aload_n 0 dX11_many_64 rfl rfl ?_
    refine aw_aload_n 0 dX11_many_65 rfl rfl ?_
    refine aw_getf (fg_11_5 (by decide)) ci_11 (by decide) w_722 dX11_many_66 ?_
    refine aw_gd (n := 5) (fun t_6 ht_6 => ?_)
    refine aw_getf (fg_9_1 (by omega)) ci_9 (by decide) w_323 dX11_many_69 ?_
    refine aw_callVW_I (c11_answer σ (gI σ 9 t_6 0 1)) (io_11 (by decide)) ci_11 (by decide) mk_11_answer w_975 w_15 w_973 rfl rfl (Nat.le_of_ble_eq_true rfl) dX11_many_72 (fun v_7 s_8 => ?_)
    exact aw_ireturn rfl dX11_many_75
  refine aw_case (c := 2) (fun h_9 => ?_) (fun h_9 => ?_)
  · refine aw_tabIn 76 h_9 dX11_many_1 (by decide) (by decide) rfl (by decide) ?_
    refine aw_aload_n 0 dX11_many_76 rfl rfl ?_
    refine aw_aload_n 0 dX11_many_77 rfl rfl ?_
    refine aw_getf (fg_11_5 (by decide)) ci_11 (by decide) w_722 dX11_many_78 ?_
    refine aw_gd (n := 5) (fun t_10 ht_10 => ?_)
    refine aw_getf (fg_9_2 (by omega)) ci_9 (by decide) w_326 dX11_many_81 ?_
    refine aw_callVW_I (c11_answer σ (gI σ 9 t_10 0 2)) (io_11 (by decide)) ci_11 (by decide) mk_11_answer w_975 w_15 w_973 rfl rfl (Nat.le_of_ble_eq_true rfl) dX11_many_84 (fun v_11 s_12 => ?_)
    exact aw_ireturn rfl dX11_many_87
  refine aw_case (c := 3) (fun h_13 => ?_) (fun h_13 => ?_)
  · refine aw_tabIn 88 h_13 dX11_many_1 (by decide) (by decide) rfl (by decide) ?_
    refine aw_aload_n 0 dX11_many_88 rfl rfl ?_
    refine aw_aload_n 0 dX11_many_89 rfl rfl ?_
    refine aw_getf (fg_11_5 (by decide)) ci_11 (by decide) w_722 dX11_many_90 ?_
    refine aw_gd (n := 5) (fun t_14 ht_14 => ?_)
    refine aw_getf (fg_9_3 (by omega)) ci_9 (by decide) w_329 dX11_many_93 ?_
    refine aw_callVW_I (c11_answer σ (gI σ 9 t_14 0 3)) (io_11 (by decide)) ci_11 (by decide) mk_11_answer w_975 w_15 w_973 rfl rfl (Nat.le_of_ble_eq_true rfl) dX11_many_96 (fun v_15 s_16 => ?_)
    exact aw_ireturn rfl dX11_many_99
  refine aw_case (c := 4) (fun h_17 => ?_) (fun h_17 => ?_)
  · refine aw_tabIn 100 h_17 dX11_many_1 (by decide) (by decide) rfl (by decide) ?_
    refine aw_aload_n 0 dX11_many_100 rfl rfl ?_
    refine aw_aload_n 0 dX11_many_101 rfl rfl ?_
    refine aw_getf (fg_11_5 (by decide)) ci_11 (by decide) w_722 dX11_many_102 ?_
    refine aw_gd (n := 5) (fun t_18 ht_18 => ?_)
    refine aw_getf (fg_9_4 (by omega)) ci_9 (by decide) w_331 dX11_many_105 ?_
    refine aw_callVW_I (c11_answer σ (gI σ 9 t_18 0 4)) (io_11 (by decide)) ci_11 (by decide) mk_11_answer w_975 w_15 w_973 rfl rfl (Nat.le_of_ble_eq_true rfl) dX11_many_108 (fun v_19 s_20 => ?_)
    exact aw_ireturn rfl dX11_many_111
  refine aw_case (c := 5) (fun h_21 => ?_) (fun h_21 => ?_)
  · refine aw_tabIn 112 h_21 dX11_many_1 (by decide) (by decide) rfl (by decide) ?_
    refine aw_aload_n 0 dX11_many_112 rfl rfl ?_
    refine aw_aload_n 0 dX11_many_113 rfl rfl ?_
    refine aw_getf (fg_11_5 (by decide)) ci_11 (by decide) w_722 dX11_many_114 ?_
    refine aw_gd (n := 5) (fun t_22 ht_22 => ?_)
    refine aw_getf (fg_9_7 (by omega)) ci_9 (by decide) w_338 dX11_many_117 ?_
    refine aw_callVW_I (c11_answer σ (gI σ 9 t_22 0 7)) (io_11 (by decide)) ci_11 (by decide) mk_11_answer w_975 w_15 w_973 rfl rfl (Nat.le_of_ble_eq_true rfl) dX11_many_120 (fun v_23 s_24 => ?_)
    exact aw_ireturn rfl dX11_many_123
  refine aw_case (c := 6) (fun h_25 => ?_) (fun h_25 => ?_)
  · refine aw_tabIn 124 h_25 dX11_many_1 (by decide) (by decide) rfl (by decide) ?_
    refine aw_aload_n 0 dX11_many_124 rfl rfl ?_
    refine aw_aload_n 0 dX11_many_125 rfl rfl ?_
    refine aw_getf (fg_11_5 (by decide)) ci_11 (by decide) w_722 dX11_many_126 ?_
    refine aw_gd (n := 5) (fun t_26 ht_26 => ?_)
    refine aw_getf (fg_9_13 (by omega)) ci_9 (by decide) w_353 dX11_many_129 ?_
    refine aw_callVW_I (c11_answer σ (gI σ 9 t_26 0 13)) (io_11 (by decide)) ci_11 (by decide) mk_11_answer w_975 w_15 w_973 rfl rfl (Nat.le_of_ble_eq_true rfl) dX11_many_132 (fun v_27 s_28 => ?_)
    exact aw_ireturn rfl dX11_many_135
  refine aw_case (c := 7) (fun h_29 => ?_) (fun h_29 => ?_)
  · refine aw_tabIn 136 h_29 dX11_many_1 (by decide) (by decide) rfl (by decide) ?_
    refine aw_aload_n 0 dX11_many_136 rfl rfl ?_
    refine aw_aload_n 0 dX11_many_137 rfl rfl ?_
    refine aw_getf (fg_11_9 (by decide)) ci_11 (by decide) w_726 dX11_many_138 ?_
    refine aw_getf (fg_7_0 (by decide)) ci_7 (by decide) w_462 dX11_many_141 ?_
    refine aw_callVW_I (c11_answer σ (gI σ 7 0 0 0)) (io_11 (by decide)) ci_11 (by decide) mk_11_answer w_975 w_15 w_973 rfl rfl (Nat.le_of_ble_eq_true rfl) dX11_many_144 (fun v_30 s_31 => ?_)
    exact aw_ireturn rfl dX11_many_147
  refine aw_case (c := 8) (fun h_32 => ?_) (fun h_32 => ?_)
  · refine aw_tabIn 148 h_32 dX11_many_1 (by decide) (by decide) rfl (by decide) ?_
    refine aw_aload_n 0 dX11_many_148 rfl rfl ?_
    refine aw_aload_n 0 dX11_many_149 rfl rfl ?_
    refine aw_getf (fg_11_9 (by decide)) ci_11 (by decide) w_726 dX11_many_150 ?_
    refine aw_getf (fg_7_1 (by decide)) ci_7 (by decide) w_465 dX11_many_153 ?_
    refine aw_callVW_I (c11_answer σ (gI σ 7 0 0 1)) (io_11 (by decide)) ci_11 (by decide) mk_11_answer w_975 w_15 w_973 rfl rfl (Nat.le_of_ble_eq_true rfl) dX11_many_156 (fun v_33 s_34 => ?_)
    exact aw_ireturn rfl dX11_many_159
  refine aw_tabOut 160 dX11_many_1 (by have eh_1 : x1.toInt ≠ 0 := ne_toInt h_1; have eh_5 : x1.toInt ≠ 1 := ne_toInt h_5; have eh_9 : x1.toInt ≠ 2 := ne_toInt h_9; have eh_13 : x1.toInt ≠ 3 := ne_toInt h_13; have eh_17 : x1.toInt ≠ 4 := ne_toInt h_17; have eh_21 : x1.toInt ≠ 5 := ne_toInt h_21; have eh_25 : x1.toInt ≠ 6 := ne_toInt h_25; have eh_29 : x1.toInt ≠ 7 := ne_toInt h_29; have eh_32 : x1.toInt ≠ 8 := ne_toInt h_32; omega) (by decide) ?_
  refine aw_aload_n 0 dX11_many_160 rfl rfl ?_
  refine aw_iconst 5 dX11_many_161 (by decide) ?_
  refine aw_callVW_I (c11_refuse σ 5) (io_11 (by decide)) ci_11 (by decide) mk_11_refuse w_838 w_3 w_836 rfl rfl (Nat.le_of_ble_eq_true rfl) dX11_many_162 (fun v_35 s_36 => ?_)
  exact aw_ireturn rfl dX11_many_165
def F11_ring (σ : Mem) (x1 : Int32) (x2 : Int32) : Option (Int32 × Mem) :=
  gd 5 (gR σ 11 0 0 5) fun t_1 => if (F11_within x1 0 ((gI σ 9 t_1 0 4) - 1)) = true then (if (F11_within x2 0 1) = true then (if x2 = 0 then (gd 5 (gR σ 11 0 0 5) fun t_6 => (ald 6 (gI σ 9 t_6 1) x1).bind fun v_7 => bd (F11_answer σ v_7) fun v_8 s_9 => some (v_8, s_9)) else (gd 5 (gR σ 11 0 0 5) fun t_2 => (ald 6 (gI σ 9 t_2 2) x1).bind fun v_3 => bd (F11_answer σ v_3) fun v_4 s_5 => some (v_4, s_5))) else (bd (F11_refuse σ 5) fun v_10 s_11 => some (v_10, s_11))) else (bd (F11_refuse σ 2) fun v_12 s_13 => some (v_12, s_13))
set_option maxRecDepth 20000 in
theorem c11_ring {l : Launch} {D : va_G} {ad : Nat → Nat → Nat → Nat} {cid : Nat → Nat → Nat → ClassId} (σ : Mem) (x1 : Int32) (x2 : Int32) : AMF (XC l D ad cid) M11_ring 1 eI [.ref (ad 11 0 0), .int x1, .int x2] σ (F11_ring σ x1 x2) := by
  refine AM.ofW (by decide +kernel) (Nat.le_of_ble_eq_true rfl) (ls := [(0, .ref (ad 11 0 0)), (1, .int x1), (2, .int x2)]) rfl ?_
  refine aw_entry ?_
  unfold F11_ring
  refine aw_iload_n 1 dX11_ring_0 rfl rfl ?_
  refine aw_iconst 0 dX11_ring_1 (by decide) ?_
  refine aw_aload_n 0 dX11_ring_2 rfl rfl ?_
  refine aw_getf (fg_11_5 (by decide)) ci_11 (by decide) w_722 dX11_ring_3 ?_
  refine aw_gd (n := 5) (fun t_1 ht_1 => ?_)
  refine aw_getf (fg_9_4 (by omega)) ci_9 (by decide) w_331 dX11_ring_6 ?_
  refine aw_iconst 1 dX11_ring_9 (by decide) ?_
  refine aw_isub dX11_ring_10 ?_
  refine aw_callST_B (c11_within σ x1 0 ((gI σ 9 t_1 0 4) - 1)) (by decide) mk_11_within w_798 w_797 rfl rfl (Nat.le_of_ble_eq_true rfl) dX11_ring_11 ?_
  refine aw_bif_ne 23 dX11_ring_14 (by decide) ?_ ?_
  · refine aw_iload_n 2 dX11_ring_23 rfl rfl ?_
    refine aw_iconst 0 dX11_ring_24 (by decide) ?_
    refine aw_iconst 1 dX11_ring_25 (by decide) ?_
    refine aw_callST_B (c11_within σ x2 0 1) (by decide) mk_11_within w_798 w_797 rfl rfl (Nat.le_of_ble_eq_true rfl) dX11_ring_26 ?_
    refine aw_bif_ne 38 dX11_ring_29 (by decide) ?_ ?_
    · refine aw_aload_n 0 dX11_ring_38 rfl rfl ?_
      refine aw_iload_n 2 dX11_ring_39 rfl rfl ?_
      refine aw_if_ne 55 dX11_ring_40 (by decide) ?_ ?_
      · refine aw_aload_n 0 dX11_ring_55 rfl rfl ?_
        refine aw_getf (fg_11_5 (by decide)) ci_11 (by decide) w_722 dX11_ring_56 ?_
        refine aw_gd (n := 5) (fun t_2 ht_2 => ?_)
        refine aw_getf (fg_9_6 (by omega)) ci_9 (by decide) w_335 dX11_ring_59 ?_
        refine aw_iload_n 1 dX11_ring_62 rfl rfl ?_
        refine aw_iaload (ar_9_2 (by omega)) dX11_ring_63 (fun v_3 => ?_)
        refine aw_callVW_I (c11_answer σ v_3) (io_11 (by decide)) ci_11 (by decide) mk_11_answer w_975 w_15 w_973 rfl rfl (Nat.le_of_ble_eq_true rfl) dX11_ring_64 (fun v_4 s_5 => ?_)
        exact aw_ireturn rfl dX11_ring_67
      · refine aw_aload_n 0 dX11_ring_43 rfl rfl ?_
        refine aw_getf (fg_11_5 (by decide)) ci_11 (by decide) w_722 dX11_ring_44 ?_
        refine aw_gd (n := 5) (fun t_6 ht_6 => ?_)
        refine aw_getf (fg_9_5 (by omega)) ci_9 (by decide) w_333 dX11_ring_47 ?_
        refine aw_iload_n 1 dX11_ring_50 rfl rfl ?_
        refine aw_iaload (ar_9_1 (by omega)) dX11_ring_51 (fun v_7 => ?_)
        refine aw_goto 64 dX11_ring_52 (by decide) ?_
        refine aw_callVW_I (c11_answer σ v_7) (io_11 (by decide)) ci_11 (by decide) mk_11_answer w_975 w_15 w_973 rfl rfl (Nat.le_of_ble_eq_true rfl) dX11_ring_64 (fun v_8 s_9 => ?_)
        exact aw_ireturn rfl dX11_ring_67
    · refine aw_aload_n 0 dX11_ring_32 rfl rfl ?_
      refine aw_iconst 5 dX11_ring_33 (by decide) ?_
      refine aw_callVW_I (c11_refuse σ 5) (io_11 (by decide)) ci_11 (by decide) mk_11_refuse w_838 w_3 w_836 rfl rfl (Nat.le_of_ble_eq_true rfl) dX11_ring_34 (fun v_10 s_11 => ?_)
      exact aw_ireturn rfl dX11_ring_37
  · refine aw_aload_n 0 dX11_ring_17 rfl rfl ?_
    refine aw_iconst 2 dX11_ring_18 (by decide) ?_
    refine aw_callVW_I (c11_refuse σ 2) (io_11 (by decide)) ci_11 (by decide) mk_11_refuse w_838 w_3 w_836 rfl rfl (Nat.le_of_ble_eq_true rfl) dX11_ring_19 (fun v_12 s_13 => ?_)
    exact aw_ireturn rfl dX11_ring_22
def F11_isPea (σ : Mem) (x1 : Int32) : Option Bool :=
  gd 5 (gR σ 11 0 0 5) fun t_1 => some (F11_within x1 0 ((gI σ 9 t_1 0 7) - 1))
set_option maxRecDepth 20000 in
theorem c11_isPea {l : Launch} {D : va_G} {ad : Nat → Nat → Nat → Nat} {cid : Nat → Nat → Nat → ClassId} (σ : Mem) (x1 : Int32) : AMF (XC l D ad cid) M11_isPea 1 eB [.ref (ad 11 0 0), .int x1] σ (oM σ (F11_isPea σ x1)) := by
  refine AM.ofW (by decide +kernel) (Nat.le_of_ble_eq_true rfl) (ls := [(0, .ref (ad 11 0 0)), (1, .int x1)]) rfl ?_
  refine aw_entryO ?_
  unfold F11_isPea
  refine aw_iload_n 1 dX11_isPea_0 rfl rfl ?_
  refine aw_iconst 0 dX11_isPea_1 (by decide) ?_
  refine aw_aload_n 0 dX11_isPea_2 rfl rfl ?_
  refine aw_getf (fg_11_5 (by decide)) ci_11 (by decide) w_722 dX11_isPea_3 ?_
  refine aw_gd (n := 5) (fun t_1 ht_1 => ?_)
  refine aw_getf (fg_9_7 (by omega)) ci_9 (by decide) w_338 dX11_isPea_6 ?_
  refine aw_iconst 1 dX11_isPea_9 (by decide) ?_
  refine aw_isub dX11_isPea_10 ?_
  refine aw_callST_B (c11_within σ x1 0 ((gI σ 9 t_1 0 7) - 1)) (by decide) mk_11_within w_798 w_797 rfl rfl (Nat.le_of_ble_eq_true rfl) dX11_isPea_11 ?_
  exact aw_zreturn (b := (F11_within x1 0 ((gI σ 9 t_1 0 7) - 1))) rfl rfl dX11_isPea_14
