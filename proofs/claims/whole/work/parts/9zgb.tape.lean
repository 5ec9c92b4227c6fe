def tpS : Nat → Int64 × Nat × (Nat → Int64)
  | 0 => (0, 0, fun _ => 0)
  | i + 1 => match tpS i with
    | (a, w, f) => if F8_isLetter (chr i) = true then (F8_withLetter a (chr i), w, f) else (0, w + 1, vp_updL f w a)
theorem tpS_let {i : Nat} (h : F8_isLetter (chr i) = true) : tpS (i + 1) = (F8_withLetter (tpS i).1 (chr i), (tpS i).2.1, (tpS i).2.2) := by
  show (match tpS i with
    | (a, w, f) => if F8_isLetter (chr i) = true then (F8_withLetter a (chr i), w, f) else (0, w + 1, vp_updL f w a)) = _
  generalize tpS i = q
  obtain ⟨a, w, f⟩ := q
  exact if_pos h
theorem tpS_gap {i : Nat} (h : ¬ F8_isLetter (chr i) = true) : tpS (i + 1) = (0, (tpS i).2.1 + 1, vp_updL (tpS i).2.2 (tpS i).2.1 (tpS i).1) := by
  show (match tpS i with
    | (a, w, f) => if F8_isLetter (chr i) = true then (F8_withLetter a (chr i), w, f) else (0, w + 1, vp_updL f w a)) = _
  generalize tpS i = q
  obtain ⟨a, w, f⟩ := q
  exact if_neg h
theorem tp_few : ∀ i, i < 157 → (tpS i).2.1 < 30 := by decide +kernel
theorem tp_words : ∀ k, k < 30 → (tpS 157).2.2 k = wordsN.getD k 0 := by decide +kernel
theorem tp_far : ∀ i, i ≤ 157 → ∀ k, 30 ≤ k → (tpS i).2.2 k = 0 := by
  intro i
  induction i with
  | zero => intro _ k _; rfl
  | succ i ih =>
    intro hi k hk
    have hw := tp_few i (by omega)
    by_cases h : F8_isLetter (chr i) = true
    · rw [tpS_let h]
      exact ih (by omega) k hk
    · rw [tpS_gap h]
      show (if k = (tpS i).2.1 then (tpS i).1 else (tpS i).2.2 k) = 0
      rw [if_neg (by omega)]
      exact ih (by omega) k hk
theorem tp_end : (tpS 157).2.2 = fun k => wordsN.getD k 0 := by
  funext k
  rcases Nat.lt_or_ge k 30 with h | h
  · exact tp_words k h
  · rw [tp_far 157 (Nat.le_refl _) k h, List.getD_eq_getElem?_getD, List.getElem?_eq_none (show wordsN.length ≤ k from h)]
    rfl
set_option maxRecDepth 20000 in
set_option maxHeartbeats 4000000 in
theorem tape_loop {l : Launch} {D : va_G} (b h0 q1 q2 : Nat) (c1 c2 : ClassId) : ∀ n i, i + n = 157 → CW l D M8_init 8 2 930 (En8 b h0) [(4, .int (nI i)), (3, .int (nI (tpS i).2.1)), (1, .long (tpS i).1), (0, .ref h0)] 38 [] ([(h0, .inr (8, [.ref q1, .int 0, .int (-1), .int (-1), .int 0, .int 0, .long 0, .int 0, .int 0, .int 0, .int 0, .int 0, .int 0, .ref q2])), (q1, .inl (c1, 900, (.inl (fun _ => 0)))), (q2, .inl (c2, 30, (.inr (.inl (tpS i).2.2))))] ++ ([] : va_W)) [(c1, .byte), (c2, .long)] 2 930 := by
  intro n
  induction n with
  | zero =>
    intro i hi
    obtain rfl : i = 157 := by omega
    refine cw_iload2 0 dX8_init_38 rfl ?_
    refine cw_len rfl (by decide) (Nat.le_of_ble_eq_true rfl) dX8_init_40 dX8_init_42 (Nat.le_refl _) (Nat.le_refl _) ?_
    refine cw_icmp_ge_t 100 dX8_init_45 rfl (by decide) ?_
    rw [tp_end]
    exact cw_ret rfl ⟨(fun _ _ c => match c with | 0 => h0 | 1 => q1 | 2 => q2 | _ => 0), (fun _ _ c => match c with | 1 => c1 | 2 => c2 | _ => 0), rfl, rfl, rfl⟩ dX8_init_100
  | succ n ih =>
    intro i hi
    have hw := tp_few i (by omega)
    refine cw_iload2 0 dX8_init_38 rfl ?_
    refine cw_len rfl (by decide) (Nat.le_of_ble_eq_true rfl) dX8_init_40 dX8_init_42 (Nat.le_refl _) (Nat.le_refl _) ?_
    refine cw_icmp_ge_f 100 dX8_init_45 rfl (show ¬ nI 157 ≤ nI i from nI_ge (by omega) (by omega)) ?_
    refine cw_iload 1 dX8_init_48 rfl rfl ?_
    refine cw_bipush 30 dX8_init_49 (by decide) ?_
    refine cw_icmp_ge_f 100 dX8_init_51 rfl (show ¬ nI 30 ≤ nI (tpS i).2.1 from nI_ge hw (by omega)) ?_
    refine cw_chr (i := i) 0 rfl (by omega) rfl (by decide) (Nat.le_of_ble_eq_true rfl) dX8_init_54 dX8_init_56 dX8_init_58 (Nat.le_refl _) (Nat.le_refl _) ?_
    refine cw_jS (As := [.int (chr i)]) (st := []) (fun adK adV fm => j_isLetter (chr i)) (by decide) mk_8_isLetter w_248 w_247 rfl rfl (Nat.le_of_ble_eq_true rfl) dX8_init_61 (Nat.le_refl _) (Nat.le_refl _) ?_
    refine cw_if_eq 82 dX8_init_64 rfl (fun h => ?_) (fun h => ?_)
    · have hl : ¬ F8_isLetter (chr i) = true := fun z => by rw [z] at h; exact absurd h (by decide)
      have ih2 := ih (i + 1) (by omega)
      rw [tpS_gap hl] at ih2
      refine cw_aload 3 dX8_init_82 rfl rfl ?_
      refine cw_get 0 13 ci_8 rfl (by decide) w_278 rfl dX8_init_83 ?_
      refine cw_iload 1 dX8_init_86 rfl rfl ?_
      refine cw_lload 2 dX8_init_87 rfl rfl ?_
      refine cw_last (ws' := [(h0, .inr (8, [.ref q1, .int 0, .int (-1), .int (-1), .int 0, .int 0, .long 0, .int 0, .int 0, .int 0, .int 0, .int 0, .int 0, .ref q2])), (q1, .inl (c1, 900, (.inl (fun _ => 0)))), (q2, .inl (c2, 30, (.inr (.inl (vp_updL (tpS i).2.2 (tpS i).2.1 (tpS i).1)))))] ++ ([] : va_W)) 2 1 rfl rfl (vp_in_nI hw (by decide)) dX8_init_88 (by rw [nI_clamp (by omega)]; rfl) ?_
      refine cw_iinc (ls' := [(3, .int (nI ((tpS i).2.1 + 1))), (4, .int (nI i)), (1, .long (tpS i).1), (0, .ref h0)]) (nI ((tpS i).2.1 + 1)) 1 dX8_init_89 rfl (nI_1 _) (by decide) rfl ?_
      refine cw_lconst 0 dX8_init_92 rfl ?_
      refine cw_lstore (ls' := [(1, .long 0), (3, .int (nI ((tpS i).2.1 + 1))), (4, .int (nI i)), (0, .ref h0)]) dX8_init_93 rfl (by decide) rfl ?_
      refine cw_iinc (ls' := [(4, .int (nI (i + 1))), (1, .long 0), (3, .int (nI ((tpS i).2.1 + 1))), (0, .ref h0)]) (nI (i + 1)) 2 dX8_init_94 rfl (nI_1 _) (by decide) rfl ?_
      refine cw_goto 38 dX8_init_97 rfl ?_
      exact cw_ls [0, 2, 1, 3] rfl ih2
    · have hl : F8_isLetter (chr i) = true := by
        cases z : F8_isLetter (chr i) with
        | true => rfl
        | false => rw [z] at h; exact absurd rfl h
      have ih2 := ih (i + 1) (by omega)
      rw [tpS_let hl] at ih2
      refine cw_lload 2 dX8_init_67 rfl rfl ?_
      refine cw_chr (i := i) 0 rfl (by omega) rfl (by decide) (Nat.le_of_ble_eq_true rfl) dX8_init_68 dX8_init_70 dX8_init_72 (Nat.le_refl _) (Nat.le_refl _) ?_
      refine cw_jS (As := [.long (tpS i).1, .int (chr i)]) (st := []) (fun adK adV fm => j_withLetter (tpS i).1 (chr i)) (by decide) mk_8_withLetter w_251 w_250 rfl rfl (Nat.le_of_ble_eq_true rfl) dX8_init_75 (Nat.le_refl _) (Nat.le_refl _) ?_
      refine cw_lstore (ls' := [(1, .long (F8_withLetter (tpS i).1 (chr i))), (4, .int (nI i)), (3, .int (nI (tpS i).2.1)), (0, .ref h0)]) dX8_init_78 rfl (by decide) rfl ?_
      refine cw_goto 94 dX8_init_79 rfl ?_
      refine cw_iinc (ls' := [(4, .int (nI (i + 1))), (1, .long (F8_withLetter (tpS i).1 (chr i))), (3, .int (nI (tpS i).2.1)), (0, .ref h0)]) (nI (i + 1)) 1 dX8_init_94 rfl (nI_1 _) (by decide) rfl ?_
      refine cw_goto 38 dX8_init_97 rfl ?_
      exact cw_ls [0, 2, 1, 3] rfl ih2
set_option maxRecDepth 20000 in
set_option maxHeartbeats 4000000 in
theorem k8_init {l : Launch} {D : va_G} (b h0 : Nat) : CM l D M8_init 8 2 930 [.ref h0] [(h0, .inr (8, [.null, .int 0, .int 0, .int 0, .int 0, .int 0, .long 0, .int 0, .int 0, .int 0, .int 0, .int 0, .int 0, .null]))] [] (En8 b h0) := by
  refine CM.ofW (by decide +kernel) (Nat.le_of_ble_eq_true rfl) (ls := [(0, .ref h0)]) rfl ?_
  refine cw_perm (ws' := [(h0, .inr (8, [.null, .int 0, .int 0, .int 0, .int 0, .int 0, .long 0, .int 0, .int 0, .int 0, .int 0, .int 0, .int 0, .null]))] ++ ([] : va_W)) (List.Perm.refl _) ?_
  refine cw_aload 0 dX8_init_0 rfl rfl ?_
  refine cw_obj w_197 w_166 w_167 (Nat.le_of_ble_eq_true rfl) dX8_init_1 ?_
  refine cw_aload 0 dX8_init_4 rfl rfl ?_
  refine cw_sipush 900 dX8_init_5 (by decide) ?_
  refine cw_newa (atype := .byte) (ty := .byte) (N := 900) (a0 := (900, (.inl (fun _ => 0)))) w_308 rfl (fun cA => vp_cell_i cA _ _) (by decide) (by decide) (Nat.le_of_ble_eq_true rfl) (Nat.le_of_ble_eq_true rfl) (Nat.le_of_ble_eq_true rfl) dX8_init_8 (fun q1 c1 => ?_)
  refine cw_perm (ws' := [(h0, .inr (8, [.null, .int 0, .int 0, .int 0, .int 0, .int 0, .long 0, .int 0, .int 0, .int 0, .int 0, .int 0, .int 0, .null])), (q1, .inl (c1, 900, (.inl (fun _ => 0))))] ++ ([] : va_W)) (perm2 [(h0, .inr (8, [.null, .int 0, .int 0, .int 0, .int 0, .int 0, .long 0, .int 0, .int 0, .int 0, .int 0, .int 0, .int 0, .null]))] ([] : va_W) _) ?_
  refine cw_putF (ws' := [(h0, .inr (8, [.ref q1, .int 0, .int 0, .int 0, .int 0, .int 0, .long 0, .int 0, .int 0, .int 0, .int 0, .int 0, .int 0, .null])), (q1, .inl (c1, 900, (.inl (fun _ => 0))))] ++ ([] : va_W)) 0 0 ci_8 rfl (by decide) w_254 rfl rfl rfl rfl rfl (Nat.le_of_ble_eq_true rfl) dX8_init_10 rfl ?_
  refine cw_aload 0 dX8_init_13 rfl rfl ?_
  refine cw_iconst (-1) dX8_init_14 (by decide) ?_
  refine cw_put (ws' := [(h0, .inr (8, [.ref q1, .int 0, .int (-1), .int 0, .int 0, .int 0, .long 0, .int 0, .int 0, .int 0, .int 0, .int 0, .int 0, .null])), (q1, .inl (c1, 900, (.inl (fun _ => 0))))] ++ ([] : va_W)) 0 2 ci_8 rfl (by decide) w_257 rfl rfl rfl (Nat.le_of_ble_eq_true rfl) dX8_init_15 rfl ?_
  refine cw_aload 0 dX8_init_18 rfl rfl ?_
  refine cw_iconst (-1) dX8_init_19 (by decide) ?_
  refine cw_put (ws' := [(h0, .inr (8, [.ref q1, .int 0, .int (-1), .int (-1), .int 0, .int 0, .long 0, .int 0, .int 0, .int 0, .int 0, .int 0, .int 0, .null])), (q1, .inl (c1, 900, (.inl (fun _ => 0))))] ++ ([] : va_W)) 0 3 ci_8 rfl (by decide) w_259 rfl rfl rfl (Nat.le_of_ble_eq_true rfl) dX8_init_20 rfl ?_
  refine cw_aload 0 dX8_init_23 rfl rfl ?_
  refine cw_bipush 30 dX8_init_24 (by decide) ?_
  refine cw_newa (atype := .long) (ty := .long) (N := 30) (a0 := (30, (.inr (.inl (fun _ => 0))))) w_191 rfl (fun cA => vp_cell_l cA _ _) (by decide) (by decide) (Nat.le_of_ble_eq_true rfl) (Nat.le_of_ble_eq_true rfl) (Nat.le_of_ble_eq_true rfl) dX8_init_26 (fun q2 c2 => ?_)
  refine cw_perm (ws' := [(h0, .inr (8, [.ref q1, .int 0, .int (-1), .int (-1), .int 0, .int 0, .long 0, .int 0, .int 0, .int 0, .int 0, .int 0, .int 0, .null])), (q1, .inl (c1, 900, (.inl (fun _ => 0)))), (q2, .inl (c2, 30, (.inr (.inl (fun _ => 0)))))] ++ ([] : va_W)) (perm2 [(h0, .inr (8, [.ref q1, .int 0, .int (-1), .int (-1), .int 0, .int 0, .long 0, .int 0, .int 0, .int 0, .int 0, .int 0, .int 0, .null])), (q1, .inl (c1, 900, (.inl (fun _ => 0))))] ([] : va_W) _) ?_
  refine cw_putF (ws' := [(h0, .inr (8, [.ref q1, .int 0, .int (-1), .int (-1), .int 0, .int 0, .long 0, .int 0, .int 0, .int 0, .int 0, .int 0, .int 0, .ref q2])), (q1, .inl (c1, 900, (.inl (fun _ => 0)))), (q2, .inl (c2, 30, (.inr (.inl (fun _ => 0)))))] ++ ([] : va_W)) 0 13 ci_8 rfl (by decide) w_278 rfl rfl rfl rfl rfl (Nat.le_of_ble_eq_true rfl) dX8_init_28 rfl ?_
  refine cw_lconst 0 dX8_init_31 rfl ?_
  refine cw_lstore (ls' := [(1, .long 0), (0, .ref h0)]) dX8_init_32 rfl (by decide) rfl ?_
  refine cw_iconst 0 dX8_init_33 (by decide) ?_
  refine cw_istore (ls' := [(3, .int 0), (1, .long 0), (0, .ref h0)]) dX8_init_34 rfl (by decide) rfl ?_
  refine cw_iconst 0 dX8_init_35 (by decide) ?_
  refine cw_istore2 (ls' := [(4, .int 0), (3, .int 0), (1, .long 0), (0, .ref h0)]) dX8_init_36 (by decide) rfl ?_
  exact tape_loop b h0 q1 q2 c1 c2 157 0 rfl
