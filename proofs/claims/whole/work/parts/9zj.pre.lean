theorem w_160 : Jvm.Cond.classLink "PeaTubeLaw" (7 : Nat) "PeaTube" ∈ Gw := gwt_1 21 rfl rfl
theorem w_1448 : Jvm.Cond.classLink "PeaTubeLaw" (10 : Nat) "PeaTubeModel" ∈ Gw := gwt_6 109 rfl rfl
theorem w_162 : Jvm.Cond.methodLink "PeaTubeLaw" (9 : Nat) ({ cls := "PeaTube", name := "<init>", desc := "()V" } : Jvm.MethodName) ∈ Gw := gwt_1 23 rfl rfl
theorem w_1450 : Jvm.Cond.methodLink "PeaTubeLaw" (12 : Nat) ({ cls := "PeaTubeModel", name := "<init>", desc := "()V" } : Jvm.MethodName) ∈ Gw := gwt_6 111 rfl rfl
theorem w_163 : Jvm.Cond.instanceMethod ({ cls := "PeaTube", name := "<init>", desc := "()V" } : Jvm.MethodName) ∈ Gw := gwt_1 24 rfl rfl
theorem w_1451 : Jvm.Cond.instanceMethod ({ cls := "PeaTubeModel", name := "<init>", desc := "()V" } : Jvm.MethodName) ∈ Gw := gwt_6 112 rfl rfl
theorem lwt_1 (j : Nat) {w : Cond} (h0 : tables_1_1[j]? = some w) : w ∈ lw_tbl := by
  have h := List.mem_of_getElem? h0
  exact List.mem_append_right _ (show w ∈ tables_1 from List.mem_append_left _ h)
theorem lwt_2 (j : Nat) {w : Cond} (h0 : tables_1_2[j]? = some w) : w ∈ lw_tbl := by
  have h := List.mem_of_getElem? h0
  exact List.mem_append_right _ (show w ∈ tables_1 from List.mem_append_right _ (List.mem_append_left _ h))
theorem lwt_3 (j : Nat) {w : Cond} (h0 : tables_1_3[j]? = some w) : w ∈ lw_tbl := by
  have h := List.mem_of_getElem? h0
  exact List.mem_append_right _ (show w ∈ tables_1 from List.mem_append_right _ (List.mem_append_right _ (List.mem_append_left _ h)))
theorem lwt_4 (j : Nat) {w : Cond} (h0 : tables_1_4[j]? = some w) : w ∈ lw_tbl := by
  have h := List.mem_of_getElem? h0
  exact List.mem_append_right _ (show w ∈ tables_1 from List.mem_append_right _ (List.mem_append_right _ (List.mem_append_right _ (List.mem_append_left _ h))))
theorem lwt_5 (j : Nat) {w : Cond} (h0 : tables_1_5[j]? = some w) : w ∈ lw_tbl := by
  have h := List.mem_of_getElem? h0
  exact List.mem_append_right _ (show w ∈ tables_1 from List.mem_append_right _ (List.mem_append_right _ (List.mem_append_right _ (List.mem_append_right _ (List.mem_append_left _ h)))))
theorem lwt_6 (j : Nat) {w : Cond} (h0 : tables_1_6[j]? = some w) : w ∈ lw_tbl := by
  have h := List.mem_of_getElem? h0
  exact List.mem_append_right _ (show w ∈ tables_1 from List.mem_append_right _ (List.mem_append_right _ (List.mem_append_right _ (List.mem_append_right _ (List.mem_append_right _ (List.mem_append_left _ h))))))
theorem lwt_7 (j : Nat) {w : Cond} (h0 : tables_1_7[j]? = some w) : w ∈ lw_tbl := by
  have h := List.mem_of_getElem? h0
  exact List.mem_append_right _ (show w ∈ tables_1 from List.mem_append_right _ (List.mem_append_right _ (List.mem_append_right _ (List.mem_append_right _ (List.mem_append_right _ (List.mem_append_right _ (List.mem_append_left _ h)))))))
theorem lwt_8 (j : Nat) {w : Cond} (h0 : tables_1_8[j]? = some w) : w ∈ lw_tbl := by
  have h := List.mem_of_getElem? h0
  exact List.mem_append_right _ (show w ∈ tables_1 from List.mem_append_right _ (List.mem_append_right _ (List.mem_append_right _ (List.mem_append_right _ (List.mem_append_right _ (List.mem_append_right _ (List.mem_append_right _ (List.mem_append_left _ h))))))))
theorem lwt_9 (j : Nat) {w : Cond} (h0 : tables_1_9[j]? = some w) : w ∈ lw_tbl := by
  have h := List.mem_of_getElem? h0
  exact List.mem_append_right _ (show w ∈ tables_1 from List.mem_append_right _ (List.mem_append_right _ (List.mem_append_right _ (List.mem_append_right _ (List.mem_append_right _ (List.mem_append_right _ (List.mem_append_right _ (List.mem_append_right _ (h)))))))))
theorem w_161 : Jvm.Cond.instantiable "PeaTube" (20 : Nat) ∈ Gw := gwt_1 22 rfl rfl
theorem w_1449 : Jvm.Cond.instantiable "PeaTubeModel" (61 : Nat) ∈ Gw := gwt_6 110 rfl rfl
theorem dL_0 : decode code 0 = .ok (.new 7, 3) := by decide +kernel
theorem dL_3 : decode code 3 = .ok (.dup, 1) := by decide +kernel
theorem dL_4 : decode code 4 = .ok (.invokespecial 9, 3) := by decide +kernel
theorem dL_7 : decode code 7 = .ok (.astore_n 1, 1) := by decide +kernel
theorem dL_8 : decode code 8 = .ok (.new 10, 3) := by decide +kernel
theorem dL_11 : decode code 11 = .ok (.dup, 1) := by decide +kernel
theorem dL_12 : decode code 12 = .ok (.invokespecial 12, 3) := by decide +kernel
theorem dL_15 : decode code 15 = .ok (.astore_n 2, 1) := by decide +kernel
theorem dL_16 : decode code 16 = .ok (.iconst 0, 1) := by decide +kernel
theorem dL_17 : decode code 17 = .ok (.istore_n 3, 1) := by decide +kernel
theorem va_D_fst {A : Nat → Prop} {w1 w2 : va_W} (he : w1.map Prod.fst = w2.map Prod.fst) (h : va_D A w1) : va_D A w2 := by
  obtain ⟨h1, h2⟩ := va_D_nd.mp h
  refine va_D_nd.mpr ⟨he ▸ h1, fun q hq => ?_⟩
  have : q.1 ∈ w1.map Prod.fst := by rw [he]; exact List.mem_map_of_mem hq
  obtain ⟨z, hz, hzq⟩ := List.mem_map.mp this
  rw [← hzq]
  exact h2 z hz
theorem wd_fst (V : WSp) (σ σ' : Mem) : (wd V σ).map Prod.fst = (wd V σ').map Prod.fst := by
  rw [wd, wd, List.map_map, List.map_map]
  rfl
theorem str_bytes : ∀ j, j < 157 → (Cond.eq (.elem (.field (Term.string "PeaTube$Tape" 26) "java/lang/String" "value" "[B") (.int (Int32.ofNat j))) (.int (([wordB].getD 0 []).getD j 0))) ∈ flatC (Jvm.Cond.and given_1 narrow_1) := by
  intro j hj
  match j, hj with
  | 0, _ => exact List.mem_of_getElem? (i := 52) rfl
  | 1, _ => exact List.mem_of_getElem? (i := 53) rfl
  | 2, _ => exact List.mem_of_getElem? (i := 54) rfl
  | 3, _ => exact List.mem_of_getElem? (i := 55) rfl
  | 4, _ => exact List.mem_of_getElem? (i := 56) rfl
  | 5, _ => exact List.mem_of_getElem? (i := 57) rfl
  | 6, _ => exact List.mem_of_getElem? (i := 58) rfl
  | 7, _ => exact List.mem_of_getElem? (i := 59) rfl
  | 8, _ => exact List.mem_of_getElem? (i := 60) rfl
  | 9, _ => exact List.mem_of_getElem? (i := 61) rfl
  | 10, _ => exact List.mem_of_getElem? (i := 62) rfl
  | 11, _ => exact List.mem_of_getElem? (i := 63) rfl
  | 12, _ => exact List.mem_of_getElem? (i := 64) rfl
  | 13, _ => exact List.mem_of_getElem? (i := 65) rfl
  | 14, _ => exact List.mem_of_getElem? (i := 66) rfl
  | 15, _ => exact List.mem_of_getElem? (i := 67) rfl
  | 16, _ => exact List.mem_of_getElem? (i := 68) rfl
  | 17, _ => exact List.mem_of_getElem? (i := 69) rfl
  | 18, _ => exact List.mem_of_getElem? (i := 70) rfl
  | 19, _ => exact List.mem_of_getElem? (i := 71) rfl
  | 20, _ => exact List.mem_of_getElem? (i := 72) rfl
  | 21, _ => exact List.mem_of_getElem? (i := 73) rfl
  | 22, _ => exact List.mem_of_getElem? (i := 74) rfl
  | 23, _ => exact List.mem_of_getElem? (i := 75) rfl
  | 24, _ => exact List.mem_of_getElem? (i := 76) rfl
  | 25, _ => exact List.mem_of_getElem? (i := 77) rfl
  | 26, _ => exact List.mem_of_getElem? (i := 78) rfl
  | 27, _ => exact List.mem_of_getElem? (i := 79) rfl
  | 28, _ => exact List.mem_of_getElem? (i := 80) rfl
  | 29, _ => exact List.mem_of_getElem? (i := 81) rfl
  | 30, _ => exact List.mem_of_getElem? (i := 82) rfl
  | 31, _ => exact List.mem_of_getElem? (i := 83) rfl
  | 32, _ => exact List.mem_of_getElem? (i := 84) rfl
  | 33, _ => exact List.mem_of_getElem? (i := 85) rfl
  | 34, _ => exact List.mem_of_getElem? (i := 86) rfl
  | 35, _ => exact List.mem_of_getElem? (i := 87) rfl
  | 36, _ => exact List.mem_of_getElem? (i := 88) rfl
  | 37, _ => exact List.mem_of_getElem? (i := 89) rfl
  | 38, _ => exact List.mem_of_getElem? (i := 90) rfl
  | 39, _ => exact List.mem_of_getElem? (i := 91) rfl
  | 40, _ => exact List.mem_of_getElem? (i := 92) rfl
  | 41, _ => exact List.mem_of_getElem? (i := 93) rfl
  | 42, _ => exact List.mem_of_getElem? (i := 94) rfl
  | 43, _ => exact List.mem_of_getElem? (i := 95) rfl
  | 44, _ => exact List.mem_of_getElem? (i := 96) rfl
  | 45, _ => exact List.mem_of_getElem? (i := 97) rfl
  | 46, _ => exact List.mem_of_getElem? (i := 98) rfl
  | 47, _ => exact List.mem_of_getElem? (i := 99) rfl
  | 48, _ => exact List.mem_of_getElem? (i := 100) rfl
  | 49, _ => exact List.mem_of_getElem? (i := 101) rfl
  | 50, _ => exact List.mem_of_getElem? (i := 102) rfl
  | 51, _ => exact List.mem_of_getElem? (i := 103) rfl
  | 52, _ => exact List.mem_of_getElem? (i := 104) rfl
  | 53, _ => exact List.mem_of_getElem? (i := 105) rfl
  | 54, _ => exact List.mem_of_getElem? (i := 106) rfl
  | 55, _ => exact List.mem_of_getElem? (i := 107) rfl
  | 56, _ => exact List.mem_of_getElem? (i := 108) rfl
  | 57, _ => exact List.mem_of_getElem? (i := 109) rfl
  | 58, _ => exact List.mem_of_getElem? (i := 110) rfl
  | 59, _ => exact List.mem_of_getElem? (i := 111) rfl
  | 60, _ => exact List.mem_of_getElem? (i := 112) rfl
  | 61, _ => exact List.mem_of_getElem? (i := 113) rfl
  | 62, _ => exact List.mem_of_getElem? (i := 114) rfl
  | 63, _ => exact List.mem_of_getElem? (i := 115) rfl
  | 64, _ => exact List.mem_of_getElem? (i := 116) rfl
  | 65, _ => exact List.mem_of_getElem? (i := 117) rfl
  | 66, _ => exact List.mem_of_getElem? (i := 118) rfl
  | 67, _ => exact List.mem_of_getElem? (i := 119) rfl
  | 68, _ => exact List.mem_of_getElem? (i := 120) rfl
  | 69, _ => exact List.mem_of_getElem? (i := 121) rfl
  | 70, _ => exact List.mem_of_getElem? (i := 122) rfl
  | 71, _ => exact List.mem_of_getElem? (i := 123) rfl
  | 72, _ => exact List.mem_of_getElem? (i := 124) rfl
  | 73, _ => exact List.mem_of_getElem? (i := 125) rfl
  | 74, _ => exact List.mem_of_getElem? (i := 126) rfl
  | 75, _ => exact List.mem_of_getElem? (i := 127) rfl
  | 76, _ => exact List.mem_of_getElem? (i := 128) rfl
  | 77, _ => exact List.mem_of_getElem? (i := 129) rfl
  | 78, _ => exact List.mem_of_getElem? (i := 130) rfl
  | 79, _ => exact List.mem_of_getElem? (i := 131) rfl
  | 80, _ => exact List.mem_of_getElem? (i := 132) rfl
  | 81, _ => exact List.mem_of_getElem? (i := 133) rfl
  | 82, _ => exact List.mem_of_getElem? (i := 134) rfl
  | 83, _ => exact List.mem_of_getElem? (i := 135) rfl
  | 84, _ => exact List.mem_of_getElem? (i := 136) rfl
  | 85, _ => exact List.mem_of_getElem? (i := 137) rfl
  | 86, _ => exact List.mem_of_getElem? (i := 138) rfl
  | 87, _ => exact List.mem_of_getElem? (i := 139) rfl
  | 88, _ => exact List.mem_of_getElem? (i := 140) rfl
  | 89, _ => exact List.mem_of_getElem? (i := 141) rfl
  | 90, _ => exact List.mem_of_getElem? (i := 142) rfl
  | 91, _ => exact List.mem_of_getElem? (i := 143) rfl
  | 92, _ => exact List.mem_of_getElem? (i := 144) rfl
  | 93, _ => exact List.mem_of_getElem? (i := 145) rfl
  | 94, _ => exact List.mem_of_getElem? (i := 146) rfl
  | 95, _ => exact List.mem_of_getElem? (i := 147) rfl
  | 96, _ => exact List.mem_of_getElem? (i := 148) rfl
  | 97, _ => exact List.mem_of_getElem? (i := 149) rfl
  | 98, _ => exact List.mem_of_getElem? (i := 150) rfl
  | 99, _ => exact List.mem_of_getElem? (i := 151) rfl
  | 100, _ => exact List.mem_of_getElem? (i := 152) rfl
  | 101, _ => exact List.mem_of_getElem? (i := 153) rfl
  | 102, _ => exact List.mem_of_getElem? (i := 154) rfl
  | 103, _ => exact List.mem_of_getElem? (i := 155) rfl
  | 104, _ => exact List.mem_of_getElem? (i := 156) rfl
  | 105, _ => exact List.mem_of_getElem? (i := 157) rfl
  | 106, _ => exact List.mem_of_getElem? (i := 158) rfl
  | 107, _ => exact List.mem_of_getElem? (i := 159) rfl
  | 108, _ => exact List.mem_of_getElem? (i := 160) rfl
  | 109, _ => exact List.mem_of_getElem? (i := 161) rfl
  | 110, _ => exact List.mem_of_getElem? (i := 162) rfl
  | 111, _ => exact List.mem_of_getElem? (i := 163) rfl
  | 112, _ => exact List.mem_of_getElem? (i := 164) rfl
  | 113, _ => exact List.mem_of_getElem? (i := 165) rfl
  | 114, _ => exact List.mem_of_getElem? (i := 166) rfl
  | 115, _ => exact List.mem_of_getElem? (i := 167) rfl
  | 116, _ => exact List.mem_of_getElem? (i := 168) rfl
  | 117, _ => exact List.mem_of_getElem? (i := 169) rfl
  | 118, _ => exact List.mem_of_getElem? (i := 170) rfl
  | 119, _ => exact List.mem_of_getElem? (i := 171) rfl
  | 120, _ => exact List.mem_of_getElem? (i := 172) rfl
  | 121, _ => exact List.mem_of_getElem? (i := 173) rfl
  | 122, _ => exact List.mem_of_getElem? (i := 174) rfl
  | 123, _ => exact List.mem_of_getElem? (i := 175) rfl
  | 124, _ => exact List.mem_of_getElem? (i := 176) rfl
  | 125, _ => exact List.mem_of_getElem? (i := 177) rfl
  | 126, _ => exact List.mem_of_getElem? (i := 178) rfl
  | 127, _ => exact List.mem_of_getElem? (i := 179) rfl
  | 128, _ => exact List.mem_of_getElem? (i := 180) rfl
  | 129, _ => exact List.mem_of_getElem? (i := 181) rfl
  | 130, _ => exact List.mem_of_getElem? (i := 182) rfl
  | 131, _ => exact List.mem_of_getElem? (i := 183) rfl
  | 132, _ => exact List.mem_of_getElem? (i := 184) rfl
  | 133, _ => exact List.mem_of_getElem? (i := 185) rfl
  | 134, _ => exact List.mem_of_getElem? (i := 186) rfl
  | 135, _ => exact List.mem_of_getElem? (i := 187) rfl
  | 136, _ => exact List.mem_of_getElem? (i := 188) rfl
  | 137, _ => exact List.mem_of_getElem? (i := 189) rfl
  | 138, _ => exact List.mem_of_getElem? (i := 190) rfl
  | 139, _ => exact List.mem_of_getElem? (i := 191) rfl
  | 140, _ => exact List.mem_of_getElem? (i := 192) rfl
  | 141, _ => exact List.mem_of_getElem? (i := 193) rfl
  | 142, _ => exact List.mem_of_getElem? (i := 194) rfl
  | 143, _ => exact List.mem_of_getElem? (i := 195) rfl
  | 144, _ => exact List.mem_of_getElem? (i := 196) rfl
  | 145, _ => exact List.mem_of_getElem? (i := 197) rfl
  | 146, _ => exact List.mem_of_getElem? (i := 198) rfl
  | 147, _ => exact List.mem_of_getElem? (i := 199) rfl
  | 148, _ => exact List.mem_of_getElem? (i := 200) rfl
  | 149, _ => exact List.mem_of_getElem? (i := 201) rfl
  | 150, _ => exact List.mem_of_getElem? (i := 202) rfl
  | 151, _ => exact List.mem_of_getElem? (i := 203) rfl
  | 152, _ => exact List.mem_of_getElem? (i := 204) rfl
  | 153, _ => exact List.mem_of_getElem? (i := 205) rfl
  | 154, _ => exact List.mem_of_getElem? (i := 206) rfl
  | 155, _ => exact List.mem_of_getElem? (i := 207) rfl
  | 156, _ => exact List.mem_of_getElem? (i := 208) rfl
  | j + 157, hj => exact absurd hj (by omega)
/-- what the first state says of the string constant, the statics, the arrays' classes -/
theorem spa_start {s : State} {args : Array Value} (hts : ∀ w ∈ lw_tbl, w.before args s = true) (hgv : (Jvm.Cond.and given_1 narrow_1).before args s = true) : SPA (lwA s) s s.heap := by
  have hs := flat_of_before _ hgv
  have hA : ∀ a : Nat, a < s.heap.size → ¬ lwA s a := fun a h => Nat.not_le.mpr h
  refine ⟨⟨va_AO.of (hts _ (lwt_1 30 rfl)), va_AO.of (hts _ (lwt_2 129 rfl)), va_AO.of (hts _ (lwt_3 9 rfl))⟩, ?_⟩
  obtain ⟨adK, adV, hS, hE⟩ := vk_Sof (args := args) (s := s) (N := 1) (tm := fun _ => (Term.string "PeaTube$Tape" 26)) (len := [157]) (byt := [wordB]) (A := lwA s) (fun i hi => by
      obtain rfl : i = 0 := by omega
      decide)
    (fun i hi => hs _ (by decide +kernel)) (fun i hi => hs _ (by decide +kernel)) (fun i hi => hs _ (by decide +kernel)) (fun i hi => by
      obtain rfl : i = 0 := by omega
      exact hs _ (by decide +kernel))
    (fun i hi j hj => by
      obtain rfl : i = 0 := by omega
      exact hs _ (str_bytes j hj)) (fun i j hi hj hij => absurd (show i = j by omega) hij) hA
  have hc := va_Zof (C := "java/lang/String") (n := "COMPACT_STRINGS") (d := "Z") (v := .int 1) (A := lwA s) (hts _ (lwt_1 69 rfl)) (hts _ (List.mem_filter.mp w_143).1) (va_eqt (hs _ (by decide +kernel))) hA
  have hi : (Cond.isRef (.static "jdk/internal/util/Preconditions" "SIOOBE_FORMATTER" "Ljava/util/function/BiFunction;")).before args s = true := hs _ (by decide +kernel)
  rcases va_Zqof (hts _ (lwt_1 85 rfl)) (hts _ (List.mem_filter.mp w_145).1) hi hA with hz | ⟨t, hz⟩
  · exact ⟨adK, adV, .null, Or.inl rfl, hS, hc, hz, vk_R.of (hts _ (lwt_1 59 rfl)) (hE 0 (by decide))⟩
  · exact ⟨adK, adV, .ref t, Or.inr ⟨t, rfl⟩, hS, hc, hz, vk_R.of (hts _ (lwt_1 59 rfl)) (hE 0 (by decide))⟩

theorem b0 : ∀ j, j < 600 → blkM σM0 0 j = iM0 12 0 5 j := fun j hj => by
  show (if j < 600 then cM σM0 (0 + j) else 0) = _
  rw [if_pos hj, Nat.zero_add]
  rfl
theorem rel_start : Rel σC0 σM0 := by
  have z : ∀ j, 3 ≤ j → iM0 12 0 5 j = 0 := fun j hj => by
    show upd (upd (upd (fun _ => 0) 0 24) 1 8) 2 12 j = 0
    simp only [upd, show ¬ j = 0 by omega, show ¬ j = 1 by omega, show ¬ j = 2 by omega, if_false]
  have bz : ∀ j, 3 ≤ j → j < 600 → blkM σM0 0 j = 0 := fun j h1 h2 => by rw [b0 j h2, z j h1]
  have b00 : blkM σM0 0 0 = 24 := by decide
  have b01 : blkM σM0 0 1 = 8 := by decide
  have b02 : blkM σM0 0 2 = 12 := by decide
  have n0 : nat 0 = 0 := by decide
  refine ⟨⟨?_, ⟨⟨rfl, by decide, by decide, rfl, rfl, fun k hk => absurd hk (Nat.not_lt_zero k)⟩, fun k hk => rfl⟩, ⟨⟨by decide, rfl⟩, ⟨by decide, rfl⟩⟩, ⟨?_, ?_, ?_, ?_⟩, ⟨rfl, by decide, by decide, fun i hi => absurd hi (Nat.not_lt_zero i)⟩, ⟨rfl, fun h => absurd h (by decide)⟩⟩, rfl, rfl, rfl⟩
  · intro t ht
    refine Or.inl ⟨rfl, ?_⟩
    match t, ht with
    | 0, _ => rfl
    | 1, _ => rfl
    | 2, _ => rfl
    | 3, _ => rfl
    | t + 4, ht => exact absurd ht (by omega)
  · refine ⟨by rw [b00]; decide, by rw [b01]; decide, by rw [b02]; decide, ?_⟩
    rw [bz 3 (by decide) (by decide), bz 4 (by decide) (by decide), bz 5 (by decide) (by decide), bz 6 (by decide) (by decide)]
    exact ⟨by decide, by decide, by decide, by decide, fun k hk => absurd hk (Nat.not_lt_zero k), fun k hk => absurd hk (Nat.not_lt_zero _), fun k hk => absurd hk (Nat.not_lt_zero k), fun k hk => absurd hk (Nat.not_lt_zero k)⟩
  · refine ⟨b00.symm, b01.symm, b02.symm, (bz 3 (by decide) (by decide)).symm, (bz 4 (by decide) (by decide)).symm, (bz 5 (by decide) (by decide)).symm, (bz 6 (by decide) (by decide)).symm, ?_⟩
    rw [bz 4 (by decide) (by decide), bz 5 (by decide) (by decide), bz 6 (by decide) (by decide)]
    exact ⟨fun k hk => absurd hk (Nat.not_lt_zero k), fun k hk => absurd hk (Nat.not_lt_zero k), fun k hk => absurd hk (Nat.not_lt_zero k)⟩
  · refine ⟨⟨(bz 7 (by decide) (by decide)).symm, (bz 8 (by decide) (by decide)).symm⟩, ?_, ?_, ?_⟩
    · rw [bz 7 (by decide) (by decide), bz 8 (by decide) (by decide)]
      decide
    · intro k hk
      exact (bz (77 + k) (by omega) (by omega)).symm
    · rw [bz 8 (by decide) (by decide)]
      exact fun k hk => absurd hk (Nat.not_lt_zero k)
  · exact Or.inl ⟨rfl, bz 323 (by decide) (by decide)⟩
