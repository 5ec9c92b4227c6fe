def sh12 (ad : Nat → Nat → Nat → Nat) (cid : Nat → Nat → Nat → ClassId) (b c : Nat) (I : Nat → Int32) (L : Nat → Int64) (B : Nat → Bool) (R : Nat → Nat) : va_E := match c with
  | 0 => .inr (12, [.int (I 0), .int (I 1), .long (L 2), .long (L 3), .ref (ad 12 b 1), .ref (ad 12 b 2), .ref (ad 12 b 3), .ref (ad 12 b 4), .int (I 8), .int (I 9), .int (I 10), .int (I 11), .int (I 12), .int (I 13), .int (I 14), .int (I 15), .int (I 16), .int (I 17), .int (I 18), .long (L 19), .ref (ad 12 b 5), .ref (ad 12 b 6), .ref (ad 12 b 7), .int (I 23), .int (b2i (B 24)), .int (b2i (B 25)), .int (b2i (B 26)), .int (I 27), .int (I 28), .int (I 29), .int (I 30), .int (I 31), .ref (ad 12 b 8), .int (I 33), .int (I 34), .long (L 35), .long (L 36), .ref (ad 12 b 9), .ref (ad 12 b 10), .ref (ad 12 b 11), .long (L 40), .long (L 41), .long (L 42), .long (L 43), .long (L 44), .long (L 45), .ref (ad 12 b 12), .int (b2i (B 47)), .int (b2i (B 48)), .int (I 49), .int (I 50), .int (I 51), .int (I 52), .int (I 53), .int (I 54), .int (I 55), .int (I 56), .int (I 57), .int (I 58), .int (I 59), .int (I 60)])
  | 1 => .inl (cid 12 b 1, 4, .inl I)
  | 2 => .inl (cid 12 b 2, 4, .inl I)
  | 3 => .inl (cid 12 b 3, 240, .inr (.inl L))
  | 4 => .inl (cid 12 b 4, 900, .inl I)
  | 5 => .inl (cid 12 b 5, 3000, .inl I)
  | 6 => .inl (cid 12 b 6, 323, .inl I)
  | 7 => .inl (cid 12 b 7, 70, .inr (.inl L))
  | 8 => .inl (cid 12 b 8, 21, .inl I)
  | 9 => .inl (cid 12 b 9, 101, .inr (.inl L))
  | 10 => .inl (cid 12 b 10, 101, .inr (.inl L))
  | 11 => .inl (cid 12 b 11, 101, .inr (.inl L))
  | 12 => .inl (cid 12 b 12, 5, .inl I)
  | _ => .inr (0, [])
def shM (ad : Nat → Nat → Nat → Nat) (cid : Nat → Nat → Nat → ClassId) (a b c : Nat) (I : Nat → Int32) (L : Nat → Int64) (B : Nat → Bool) (R : Nat → Nat) : va_E := match a with
  | 12 => sh12 ad cid b c I L B R
  | _ => .inr (0, [])
def keysM : List (Nat × Nat × Nat) := [(12, 0, 0), (12, 0, 1), (12, 0, 2), (12, 0, 3), (12, 0, 4), (12, 0, 5), (12, 0, 6), (12, 0, 7), (12, 0, 8), (12, 0, 9), (12, 0, 10), (12, 0, 11), (12, 0, 12)]
def arrM : List (Nat × Nat × Nat × FieldType) := [(12, 0, 1, .int), (12, 0, 2, .int), (12, 0, 3, .long), (12, 0, 4, .byte), (12, 0, 5, .int), (12, 0, 6, .int), (12, 0, 7, .long), (12, 0, 8, .int), (12, 0, 9, .long), (12, 0, 10, .long), (12, 0, 11, .long), (12, 0, 12, .int)]
def tysM (cid : Nat → Nat → Nat → ClassId) : List (ClassId × FieldType) := arrM.map (fun q => (cid q.1 q.2.1 q.2.2.1, q.2.2.2))
abbrev XM (l : Launch) (D : va_G) (ad : Nat → Nat → Nat → Nat) (cid : Nat → Nat → Nat → ClassId) : Ctx := (l, D, tysM cid, (keysM, ad, shM ad cid))
theorem nodupM : keysM.Nodup := by decide +kernel
section LM
variable {l : Launch} {D : va_G} {ad : Nat → Nat → Nat → Nat} {cid : Nat → Nat → Nat → ClassId} {t : Nat}
theorem ci_12 : CI 12 RX12 TX12 61 tyX12 := ⟨rfl, fun w hw => of_decide_eq_true (List.all_eq_true.mp (by decide +kernel : (u_ws RX12 TX12 61).all (fun w => decide (w ∈ Gw)) = true) w hw), tyX12_ok, nmX12⟩
theorem kk_12 : ∀ t, t < 1 → ∀ c, c < 13 → (12, t, c) ∈ keysM := by decide +kernel
theorem kin_12 (ht : t < 1) (c : Nat) (hc : c < 13) : Kin (XM l D ad cid) 12 t c := ⟨kk_12 t ht c hc, nodupM⟩
theorem io_12 (ht : t < 1) : IsO (XM l D ad cid) 12 t 12 := ⟨kin_12 ht 0 (by decide), fun _ _ _ _ => ⟨_, rfl⟩⟩
theorem fg_12_0 (ht : t < 1) : FdG (XM l D ad cid) 12 t 12 0 (fun I L B R => .int (I 0)) := ⟨kin_12 ht 0 (by decide), fun _ _ _ _ => ⟨_, rfl, rfl⟩⟩
theorem fs_12_0 (ht : t < 1) : FdI (XM l D ad cid) 12 t 12 0 := ⟨kin_12 ht 0 (by decide), fun _ _ _ _ _ => ⟨_, rfl, Nat.le_of_ble_eq_true rfl, rfl⟩⟩
theorem fg_12_1 (ht : t < 1) : FdG (XM l D ad cid) 12 t 12 1 (fun I L B R => .int (I 1)) := ⟨kin_12 ht 0 (by decide), fun _ _ _ _ => ⟨_, rfl, rfl⟩⟩
theorem fs_12_1 (ht : t < 1) : FdI (XM l D ad cid) 12 t 12 1 := ⟨kin_12 ht 0 (by decide), fun _ _ _ _ _ => ⟨_, rfl, Nat.le_of_ble_eq_true rfl, rfl⟩⟩
theorem fg_12_2 (ht : t < 1) : FdG (XM l D ad cid) 12 t 12 2 (fun I L B R => .long (L 2)) := ⟨kin_12 ht 0 (by decide), fun _ _ _ _ => ⟨_, rfl, rfl⟩⟩
theorem fs_12_2 (ht : t < 1) : FdL (XM l D ad cid) 12 t 12 2 := ⟨kin_12 ht 0 (by decide), fun _ _ _ _ _ => ⟨_, rfl, Nat.le_of_ble_eq_true rfl, rfl⟩⟩
theorem fg_12_3 (ht : t < 1) : FdG (XM l D ad cid) 12 t 12 3 (fun I L B R => .long (L 3)) := ⟨kin_12 ht 0 (by decide), fun _ _ _ _ => ⟨_, rfl, rfl⟩⟩
theorem fs_12_3 (ht : t < 1) : FdL (XM l D ad cid) 12 t 12 3 := ⟨kin_12 ht 0 (by decide), fun _ _ _ _ _ => ⟨_, rfl, Nat.le_of_ble_eq_true rfl, rfl⟩⟩
theorem fg_12_4 (ht : t < 1) : FdG (XM l D ad cid) 12 t 12 4 (fun I L B R => .ref (ad 12 t 1)) := ⟨kin_12 ht 0 (by decide), fun _ _ _ _ => ⟨_, rfl, rfl⟩⟩
theorem aa_12_1 : ∀ t, t < 1 → ((12, t, 1, .int) : Nat × Nat × Nat × FieldType) ∈ arrM := by decide +kernel
theorem ar_12_1 (ht : t < 1) : IsI (XM l D ad cid) 12 t 1 4 .int := ⟨kin_12 ht 1 (by decide), cid 12 t 1, List.mem_map.mpr ⟨(12, t, 1, .int), aa_12_1 t ht, rfl⟩, fun _ _ _ _ => rfl⟩
theorem fg_12_5 (ht : t < 1) : FdG (XM l D ad cid) 12 t 12 5 (fun I L B R => .ref (ad 12 t 2)) := ⟨kin_12 ht 0 (by decide), fun _ _ _ _ => ⟨_, rfl, rfl⟩⟩
theorem aa_12_2 : ∀ t, t < 1 → ((12, t, 2, .int) : Nat × Nat × Nat × FieldType) ∈ arrM := by decide +kernel
theorem ar_12_2 (ht : t < 1) : IsI (XM l D ad cid) 12 t 2 4 .int := ⟨kin_12 ht 2 (by decide), cid 12 t 2, List.mem_map.mpr ⟨(12, t, 2, .int), aa_12_2 t ht, rfl⟩, fun _ _ _ _ => rfl⟩
theorem fg_12_6 (ht : t < 1) : FdG (XM l D ad cid) 12 t 12 6 (fun I L B R => .ref (ad 12 t 3)) := ⟨kin_12 ht 0 (by decide), fun _ _ _ _ => ⟨_, rfl, rfl⟩⟩
theorem aa_12_3 : ∀ t, t < 1 → ((12, t, 3, .long) : Nat × Nat × Nat × FieldType) ∈ arrM := by decide +kernel
theorem ar_12_3 (ht : t < 1) : IsL (XM l D ad cid) 12 t 3 240 := ⟨kin_12 ht 3 (by decide), cid 12 t 3, List.mem_map.mpr ⟨(12, t, 3, .long), aa_12_3 t ht, rfl⟩, fun _ _ _ _ => rfl⟩
theorem fg_12_7 (ht : t < 1) : FdG (XM l D ad cid) 12 t 12 7 (fun I L B R => .ref (ad 12 t 4)) := ⟨kin_12 ht 0 (by decide), fun _ _ _ _ => ⟨_, rfl, rfl⟩⟩
theorem aa_12_4 : ∀ t, t < 1 → ((12, t, 4, .byte) : Nat × Nat × Nat × FieldType) ∈ arrM := by decide +kernel
theorem ar_12_4 (ht : t < 1) : IsI (XM l D ad cid) 12 t 4 900 .byte := ⟨kin_12 ht 4 (by decide), cid 12 t 4, List.mem_map.mpr ⟨(12, t, 4, .byte), aa_12_4 t ht, rfl⟩, fun _ _ _ _ => rfl⟩
theorem fg_12_8 (ht : t < 1) : FdG (XM l D ad cid) 12 t 12 8 (fun I L B R => .int (I 8)) := ⟨kin_12 ht 0 (by decide), fun _ _ _ _ => ⟨_, rfl, rfl⟩⟩
theorem fs_12_8 (ht : t < 1) : FdI (XM l D ad cid) 12 t 12 8 := ⟨kin_12 ht 0 (by decide), fun _ _ _ _ _ => ⟨_, rfl, Nat.le_of_ble_eq_true rfl, rfl⟩⟩
theorem fg_12_9 (ht : t < 1) : FdG (XM l D ad cid) 12 t 12 9 (fun I L B R => .int (I 9)) := ⟨kin_12 ht 0 (by decide), fun _ _ _ _ => ⟨_, rfl, rfl⟩⟩
theorem fs_12_9 (ht : t < 1) : FdI (XM l D ad cid) 12 t 12 9 := ⟨kin_12 ht 0 (by decide), fun _ _ _ _ _ => ⟨_, rfl, Nat.le_of_ble_eq_true rfl, rfl⟩⟩
theorem fg_12_10 (ht : t < 1) : FdG (XM l D ad cid) 12 t 12 10 (fun I L B R => .int (I 10)) := ⟨kin_12 ht 0 (by decide), fun _ _ _ _ => ⟨_, rfl, rfl⟩⟩
theorem fs_12_10 (ht : t < 1) : FdI (XM l D ad cid) 12 t 12 10 := ⟨kin_12 ht 0 (by decide), fun _ _ _ _ _ => ⟨_, rfl, Nat.le_of_ble_eq_true rfl, rfl⟩⟩
theorem fg_12_11 (ht : t < 1) : FdG (XM l D ad cid) 12 t 12 11 (fun I L B R => .int (I 11)) := ⟨kin_12 ht 0 (by decide), fun _ _ _ _ => ⟨_, rfl, rfl⟩⟩
theorem fs_12_11 (ht : t < 1) : FdI (XM l D ad cid) 12 t 12 11 := ⟨kin_12 ht 0 (by decide), fun _ _ _ _ _ => ⟨_, rfl, Nat.le_of_ble_eq_true rfl, rfl⟩⟩
theorem fg_12_12 (ht : t < 1) : FdG (XM l D ad cid) 12 t 12 12 (fun I L B R => .int (I 12)) := ⟨kin_12 ht 0 (by decide), fun _ _ _ _ => ⟨_, rfl, rfl⟩⟩
theorem fs_12_12 (ht : t < 1) : FdI (XM l D ad cid) 12 t 12 12 := ⟨kin_12 ht 0 (by decide), fun _ _ _ _ _ => ⟨_, rfl, Nat.le_of_ble_eq_true rfl, rfl⟩⟩
theorem fg_12_13 (ht : t < 1) : FdG (XM l D ad cid) 12 t 12 13 (fun I L B R => .int (I 13)) := ⟨kin_12 ht 0 (by decide), fun _ _ _ _ => ⟨_, rfl, rfl⟩⟩
theorem fs_12_13 (ht : t < 1) : FdI (XM l D ad cid) 12 t 12 13 := ⟨kin_12 ht 0 (by decide), fun _ _ _ _ _ => ⟨_, rfl, Nat.le_of_ble_eq_true rfl, rfl⟩⟩
theorem fg_12_14 (ht : t < 1) : FdG (XM l D ad cid) 12 t 12 14 (fun I L B R => .int (I 14)) := ⟨kin_12 ht 0 (by decide), fun _ _ _ _ => ⟨_, rfl, rfl⟩⟩
theorem fs_12_14 (ht : t < 1) : FdI (XM l D ad cid) 12 t 12 14 := ⟨kin_12 ht 0 (by decide), fun _ _ _ _ _ => ⟨_, rfl, Nat.le_of_ble_eq_true rfl, rfl⟩⟩
theorem fg_12_15 (ht : t < 1) : FdG (XM l D ad cid) 12 t 12 15 (fun I L B R => .int (I 15)) := ⟨kin_12 ht 0 (by decide), fun _ _ _ _ => ⟨_, rfl, rfl⟩⟩
theorem fs_12_15 (ht : t < 1) : FdI (XM l D ad cid) 12 t 12 15 := ⟨kin_12 ht 0 (by decide), fun _ _ _ _ _ => ⟨_, rfl, Nat.le_of_ble_eq_true rfl, rfl⟩⟩
theorem fg_12_16 (ht : t < 1) : FdG (XM l D ad cid) 12 t 12 16 (fun I L B R => .int (I 16)) := ⟨kin_12 ht 0 (by decide), fun _ _ _ _ => ⟨_, rfl, rfl⟩⟩
theorem fs_12_16 (ht : t < 1) : FdI (XM l D ad cid) 12 t 12 16 := ⟨kin_12 ht 0 (by decide), fun _ _ _ _ _ => ⟨_, rfl, Nat.le_of_ble_eq_true rfl, rfl⟩⟩
theorem fg_12_17 (ht : t < 1) : FdG (XM l D ad cid) 12 t 12 17 (fun I L B R => .int (I 17)) := ⟨kin_12 ht 0 (by decide), fun _ _ _ _ => ⟨_, rfl, rfl⟩⟩
theorem fs_12_17 (ht : t < 1) : FdI (XM l D ad cid) 12 t 12 17 := ⟨kin_12 ht 0 (by decide), fun _ _ _ _ _ => ⟨_, rfl, Nat.le_of_ble_eq_true rfl, rfl⟩⟩
theorem fg_12_18 (ht : t < 1) : FdG (XM l D ad cid) 12 t 12 18 (fun I L B R => .int (I 18)) := ⟨kin_12 ht 0 (by decide), fun _ _ _ _ => ⟨_, rfl, rfl⟩⟩
theorem fs_12_18 (ht : t < 1) : FdI (XM l D ad cid) 12 t 12 18 := ⟨kin_12 ht 0 (by decide), fun _ _ _ _ _ => ⟨_, rfl, Nat.le_of_ble_eq_true rfl, rfl⟩⟩
theorem fg_12_19 (ht : t < 1) : FdG (XM l D ad cid) 12 t 12 19 (fun I L B R => .long (L 19)) := ⟨kin_12 ht 0 (by decide), fun _ _ _ _ => ⟨_, rfl, rfl⟩⟩
theorem fs_12_19 (ht : t < 1) : FdL (XM l D ad cid) 12 t 12 19 := ⟨kin_12 ht 0 (by decide), fun _ _ _ _ _ => ⟨_, rfl, Nat.le_of_ble_eq_true rfl, rfl⟩⟩
theorem fg_12_20 (ht : t < 1) : FdG (XM l D ad cid) 12 t 12 20 (fun I L B R => .ref (ad 12 t 5)) := ⟨kin_12 ht 0 (by decide), fun _ _ _ _ => ⟨_, rfl, rfl⟩⟩
theorem aa_12_5 : ∀ t, t < 1 → ((12, t, 5, .int) : Nat × Nat × Nat × FieldType) ∈ arrM := by decide +kernel
theorem ar_12_5 (ht : t < 1) : IsI (XM l D ad cid) 12 t 5 3000 .int := ⟨kin_12 ht 5 (by decide), cid 12 t 5, List.mem_map.mpr ⟨(12, t, 5, .int), aa_12_5 t ht, rfl⟩, fun _ _ _ _ => rfl⟩
theorem fg_12_21 (ht : t < 1) : FdG (XM l D ad cid) 12 t 12 21 (fun I L B R => .ref (ad 12 t 6)) := ⟨kin_12 ht 0 (by decide), fun _ _ _ _ => ⟨_, rfl, rfl⟩⟩
theorem aa_12_6 : ∀ t, t < 1 → ((12, t, 6, .int) : Nat × Nat × Nat × FieldType) ∈ arrM := by decide +kernel
theorem ar_12_6 (ht : t < 1) : IsI (XM l D ad cid) 12 t 6 323 .int := ⟨kin_12 ht 6 (by decide), cid 12 t 6, List.mem_map.mpr ⟨(12, t, 6, .int), aa_12_6 t ht, rfl⟩, fun _ _ _ _ => rfl⟩
theorem fg_12_22 (ht : t < 1) : FdG (XM l D ad cid) 12 t 12 22 (fun I L B R => .ref (ad 12 t 7)) := ⟨kin_12 ht 0 (by decide), fun _ _ _ _ => ⟨_, rfl, rfl⟩⟩
theorem aa_12_7 : ∀ t, t < 1 → ((12, t, 7, .long) : Nat × Nat × Nat × FieldType) ∈ arrM := by decide +kernel
theorem ar_12_7 (ht : t < 1) : IsL (XM l D ad cid) 12 t 7 70 := ⟨kin_12 ht 7 (by decide), cid 12 t 7, List.mem_map.mpr ⟨(12, t, 7, .long), aa_12_7 t ht, rfl⟩, fun _ _ _ _ => rfl⟩
theorem fg_12_23 (ht : t < 1) : FdG (XM l D ad cid) 12 t 12 23 (fun I L B R => .int (I 23)) := ⟨kin_12 ht 0 (by decide), fun _ _ _ _ => ⟨_, rfl, rfl⟩⟩
theorem fs_12_23 (ht : t < 1) : FdI (XM l D ad cid) 12 t 12 23 := ⟨kin_12 ht 0 (by decide), fun _ _ _ _ _ => ⟨_, rfl, Nat.le_of_ble_eq_true rfl, rfl⟩⟩
theorem fg_12_24 (ht : t < 1) : FdG (XM l D ad cid) 12 t 12 24 (fun I L B R => .int (b2i (B 24))) := ⟨kin_12 ht 0 (by decide), fun _ _ _ _ => ⟨_, rfl, rfl⟩⟩
theorem fs_12_24 (ht : t < 1) : FdB (XM l D ad cid) 12 t 12 24 := ⟨kin_12 ht 0 (by decide), fun _ _ _ _ _ => ⟨_, rfl, Nat.le_of_ble_eq_true rfl, rfl⟩⟩
theorem fg_12_25 (ht : t < 1) : FdG (XM l D ad cid) 12 t 12 25 (fun I L B R => .int (b2i (B 25))) := ⟨kin_12 ht 0 (by decide), fun _ _ _ _ => ⟨_, rfl, rfl⟩⟩
theorem fs_12_25 (ht : t < 1) : FdB (XM l D ad cid) 12 t 12 25 := ⟨kin_12 ht 0 (by decide), fun _ _ _ _ _ => ⟨_, rfl, Nat.le_of_ble_eq_true rfl, rfl⟩⟩
theorem fg_12_26 (ht : t < 1) : FdG (XM l D ad cid) 12 t 12 26 (fun I L B R => .int (b2i (B 26))) := ⟨kin_12 ht 0 (by decide), fun _ _ _ _ => ⟨_, rfl, rfl⟩⟩
theorem fs_12_26 (ht : t < 1) : FdB (XM l D ad cid) 12 t 12 26 := ⟨kin_12 ht 0 (by decide), fun _ _ _ _ _ => ⟨_, rfl, Nat.le_of_ble_eq_true rfl, rfl⟩⟩
theorem fg_12_27 (ht : t < 1) : FdG (XM l D ad cid) 12 t 12 27 (fun I L B R => .int (I 27)) := ⟨kin_12 ht 0 (by decide), fun _ _ _ _ => ⟨_, rfl, rfl⟩⟩
theorem fs_12_27 (ht : t < 1) : FdI (XM l D ad cid) 12 t 12 27 := ⟨kin_12 ht 0 (by decide), fun _ _ _ _ _ => ⟨_, rfl, Nat.le_of_ble_eq_true rfl, rfl⟩⟩
theorem fg_12_28 (ht : t < 1) : FdG (XM l D ad cid) 12 t 12 28 (fun I L B R => .int (I 28)) := ⟨kin_12 ht 0 (by decide), fun _ _ _ _ => ⟨_, rfl, rfl⟩⟩
theorem fs_12_28 (ht : t < 1) : FdI (XM l D ad cid) 12 t 12 28 := ⟨kin_12 ht 0 (by decide), fun _ _ _ _ _ => ⟨_, rfl, Nat.le_of_ble_eq_true rfl, rfl⟩⟩
theorem fg_12_29 (ht : t < 1) : FdG (XM l D ad cid) 12 t 12 29 (fun I L B R => .int (I 29)) := ⟨kin_12 ht 0 (by decide), fun _ _ _ _ => ⟨_, rfl, rfl⟩⟩
theorem fs_12_29 (ht : t < 1) : FdI (XM l D ad cid) 12 t 12 29 := ⟨kin_12 ht 0 (by decide), fun _ _ _ _ _ => ⟨_, rfl, Nat.le_of_ble_eq_true rfl, rfl⟩⟩
theorem fg_12_30 (ht : t < 1) : FdG (XM l D ad cid) 12 t 12 30 (fun I L B R => .int (I 30)) := ⟨kin_12 ht 0 (by decide), fun _ _ _ _ => ⟨_, rfl, rfl⟩⟩
theorem fs_12_30 (ht : t < 1) : FdI (XM l D ad cid) 12 t 12 30 := ⟨kin_12 ht 0 (by decide), fun _ _ _ _ _ => ⟨_, rfl, Nat.le_of_ble_eq_true rfl, rfl⟩⟩
theorem fg_12_31 (ht : t < 1) : FdG (XM l D ad cid) 12 t 12 31 (fun I L B R => .int (I 31)) := ⟨kin_12 ht 0 (by decide), fun _ _ _ _ => ⟨_, rfl, rfl⟩⟩
theorem fs_12_31 (ht : t < 1) : FdI (XM l D ad cid) 12 t 12 31 := ⟨kin_12 ht 0 (by decide), fun _ _ _ _ _ => ⟨_, rfl, Nat.le_of_ble_eq_true rfl, rfl⟩⟩
theorem fg_12_32 (ht : t < 1) : FdG (XM l D ad cid) 12 t 12 32 (fun I L B R => .ref (ad 12 t 8)) := ⟨kin_12 ht 0 (by decide), fun _ _ _ _ => ⟨_, rfl, rfl⟩⟩
theorem aa_12_8 : ∀ t, t < 1 → ((12, t, 8, .int) : Nat × Nat × Nat × FieldType) ∈ arrM := by decide +kernel
theorem ar_12_8 (ht : t < 1) : IsI (XM l D ad cid) 12 t 8 21 .int := ⟨kin_12 ht 8 (by decide), cid 12 t 8, List.mem_map.mpr ⟨(12, t, 8, .int), aa_12_8 t ht, rfl⟩, fun _ _ _ _ => rfl⟩
theorem fg_12_33 (ht : t < 1) : FdG (XM l D ad cid) 12 t 12 33 (fun I L B R => .int (I 33)) := ⟨kin_12 ht 0 (by decide), fun _ _ _ _ => ⟨_, rfl, rfl⟩⟩
theorem fs_12_33 (ht : t < 1) : FdI (XM l D ad cid) 12 t 12 33 := ⟨kin_12 ht 0 (by decide), fun _ _ _ _ _ => ⟨_, rfl, Nat.le_of_ble_eq_true rfl, rfl⟩⟩
theorem fg_12_34 (ht : t < 1) : FdG (XM l D ad cid) 12 t 12 34 (fun I L B R => .int (I 34)) := ⟨kin_12 ht 0 (by decide), fun _ _ _ _ => ⟨_, rfl, rfl⟩⟩
theorem fs_12_34 (ht : t < 1) : FdI (XM l D ad cid) 12 t 12 34 := ⟨kin_12 ht 0 (by decide), fun _ _ _ _ _ => ⟨_, rfl, Nat.le_of_ble_eq_true rfl, rfl⟩⟩
theorem fg_12_35 (ht : t < 1) : FdG (XM l D ad cid) 12 t 12 35 (fun I L B R => .long (L 35)) := ⟨kin_12 ht 0 (by decide), fun _ _ _ _ => ⟨_, rfl, rfl⟩⟩
theorem fs_12_35 (ht : t < 1) : FdL (XM l D ad cid) 12 t 12 35 := ⟨kin_12 ht 0 (by decide), fun _ _ _ _ _ => ⟨_, rfl, Nat.le_of_ble_eq_true rfl, rfl⟩⟩
theorem fg_12_36 (ht : t < 1) : FdG (XM l D ad cid) 12 t 12 36 (fun I L B R => .long (L 36)) := ⟨kin_12 ht 0 (by decide), fun _ _ _ _ => ⟨_, rfl, rfl⟩⟩
theorem fs_12_36 (ht : t < 1) : FdL (XM l D ad cid) 12 t 12 36 := ⟨kin_12 ht 0 (by decide), fun _ _ _ _ _ => ⟨_, rfl, Nat.le_of_ble_eq_true rfl, rfl⟩⟩
theorem fg_12_37 (ht : t < 1) : FdG (XM l D ad cid) 12 t 12 37 (fun I L B R => .ref (ad 12 t 9)) := ⟨kin_12 ht 0 (by decide), fun _ _ _ _ => ⟨_, rfl, rfl⟩⟩
theorem aa_12_9 : ∀ t, t < 1 → ((12, t, 9, .long) : Nat × Nat × Nat × FieldType) ∈ arrM := by decide +kernel
theorem ar_12_9 (ht : t < 1) : IsL (XM l D ad cid) 12 t 9 101 := ⟨kin_12 ht 9 (by decide), cid 12 t 9, List.mem_map.mpr ⟨(12, t, 9, .long), aa_12_9 t ht, rfl⟩, fun _ _ _ _ => rfl⟩
theorem fg_12_38 (ht : t < 1) : FdG (XM l D ad cid) 12 t 12 38 (fun I L B R => .ref (ad 12 t 10)) := ⟨kin_12 ht 0 (by decide), fun _ _ _ _ => ⟨_, rfl, rfl⟩⟩
theorem aa_12_10 : ∀ t, t < 1 → ((12, t, 10, .long) : Nat × Nat × Nat × FieldType) ∈ arrM := by decide +kernel
theorem ar_12_10 (ht : t < 1) : IsL (XM l D ad cid) 12 t 10 101 := ⟨kin_12 ht 10 (by decide), cid 12 t 10, List.mem_map.mpr ⟨(12, t, 10, .long), aa_12_10 t ht, rfl⟩, fun _ _ _ _ => rfl⟩
theorem fg_12_39 (ht : t < 1) : FdG (XM l D ad cid) 12 t 12 39 (fun I L B R => .ref (ad 12 t 11)) := ⟨kin_12 ht 0 (by decide), fun _ _ _ _ => ⟨_, rfl, rfl⟩⟩
theorem aa_12_11 : ∀ t, t < 1 → ((12, t, 11, .long) : Nat × Nat × Nat × FieldType) ∈ arrM := by decide +kernel
theorem ar_12_11 (ht : t < 1) : IsL (XM l D ad cid) 12 t 11 101 := ⟨kin_12 ht 11 (by decide), cid 12 t 11, List.mem_map.mpr ⟨(12, t, 11, .long), aa_12_11 t ht, rfl⟩, fun _ _ _ _ => rfl⟩
theorem fg_12_40 (ht : t < 1) : FdG (XM l D ad cid) 12 t 12 40 (fun I L B R => .long (L 40)) := ⟨kin_12 ht 0 (by decide), fun _ _ _ _ => ⟨_, rfl, rfl⟩⟩
theorem fs_12_40 (ht : t < 1) : FdL (XM l D ad cid) 12 t 12 40 := ⟨kin_12 ht 0 (by decide), fun _ _ _ _ _ => ⟨_, rfl, Nat.le_of_ble_eq_true rfl, rfl⟩⟩
theorem fg_12_41 (ht : t < 1) : FdG (XM l D ad cid) 12 t 12 41 (fun I L B R => .long (L 41)) := ⟨kin_12 ht 0 (by decide), fun _ _ _ _ => ⟨_, rfl, rfl⟩⟩
theorem fs_12_41 (ht : t < 1) : FdL (XM l D ad cid) 12 t 12 41 := ⟨kin_12 ht 0 (by decide), fun _ _ _ _ _ => ⟨_, rfl, Nat.le_of_ble_eq_true rfl, rfl⟩⟩
theorem fg_12_42 (ht : t < 1) : FdG (XM l D ad cid) 12 t 12 42 (fun I L B R => .long (L 42)) := ⟨kin_12 ht 0 (by decide), fun _ _ _ _ => ⟨_, rfl, rfl⟩⟩
theorem fs_12_42 (ht : t < 1) : FdL (XM l D ad cid) 12 t 12 42 := ⟨kin_12 ht 0 (by decide), fun _ _ _ _ _ => ⟨_, rfl, Nat.le_of_ble_eq_true rfl, rfl⟩⟩
theorem fg_12_43 (ht : t < 1) : FdG (XM l D ad cid) 12 t 12 43 (fun I L B R => .long (L 43)) := ⟨kin_12 ht 0 (by decide), fun _ _ _ _ => ⟨_, rfl, rfl⟩⟩
theorem fs_12_43 (ht : t < 1) : FdL (XM l D ad cid) 12 t 12 43 := ⟨kin_12 ht 0 (by decide), fun _ _ _ _ _ => ⟨_, rfl, Nat.le_of_ble_eq_true rfl, rfl⟩⟩
theorem fg_12_44 (ht : t < 1) : FdG (XM l D ad cid) 12 t 12 44 (fun I L B R => .long (L 44)) := ⟨kin_12 ht 0 (by decide), fun _ _ _ _ => ⟨_, rfl, rfl⟩⟩
theorem fs_12_44 (ht : t < 1) : FdL (XM l D ad cid) 12 t 12 44 := ⟨kin_12 ht 0 (by decide), fun _ _ _ _ _ => ⟨_, rfl, Nat.le_of_ble_eq_true rfl, rfl⟩⟩
theorem fg_12_45 (ht : t < 1) : FdG (XM l D ad cid) 12 t 12 45 (fun I L B R => .long (L 45)) := ⟨kin_12 ht 0 (by decide), fun _ _ _ _ => ⟨_, rfl, rfl⟩⟩
theorem fs_12_45 (ht : t < 1) : FdL (XM l D ad cid) 12 t 12 45 := ⟨kin_12 ht 0 (by decide), fun _ _ _ _ _ => ⟨_, rfl, Nat.le_of_ble_eq_true rfl, rfl⟩⟩
theorem fg_12_46 (ht : t < 1) : FdG (XM l D ad cid) 12 t 12 46 (fun I L B R => .ref (ad 12 t 12)) := ⟨kin_12 ht 0 (by decide), fun _ _ _ _ => ⟨_, rfl, rfl⟩⟩
theorem aa_12_12 : ∀ t, t < 1 → ((12, t, 12, .int) : Nat × Nat × Nat × FieldType) ∈ arrM := by decide +kernel
theorem ar_12_12 (ht : t < 1) : IsI (XM l D ad cid) 12 t 12 5 .int := ⟨kin_12 ht 12 (by decide), cid 12 t 12, List.mem_map.mpr ⟨(12, t, 12, .int), aa_12_12 t ht, rfl⟩, fun _ _ _ _ => rfl⟩
theorem fg_12_47 (ht : t < 1) : FdG (XM l D ad cid) 12 t 12 47 (fun I L B R => .int (b2i (B 47))) := ⟨kin_12 ht 0 (by decide), fun _ _ _ _ => ⟨_, rfl, rfl⟩⟩
theorem fs_12_47 (ht : t < 1) : FdB (XM l D ad cid) 12 t 12 47 := ⟨kin_12 ht 0 (by decide), fun _ _ _ _ _ => ⟨_, rfl, Nat.le_of_ble_eq_true rfl, rfl⟩⟩
theorem fg_12_48 (ht : t < 1) : FdG (XM l D ad cid) 12 t 12 48 (fun I L B R => .int (b2i (B 48))) := ⟨kin_12 ht 0 (by decide), fun _ _ _ _ => ⟨_, rfl, rfl⟩⟩
theorem fs_12_48 (ht : t < 1) : FdB (XM l D ad cid) 12 t 12 48 := ⟨kin_12 ht 0 (by decide), fun _ _ _ _ _ => ⟨_, rfl, Nat.le_of_ble_eq_true rfl, rfl⟩⟩
theorem fg_12_49 (ht : t < 1) : FdG (XM l D ad cid) 12 t 12 49 (fun I L B R => .int (I 49)) := ⟨kin_12 ht 0 (by decide), fun _ _ _ _ => ⟨_, rfl, rfl⟩⟩
theorem fs_12_49 (ht : t < 1) : FdI (XM l D ad cid) 12 t 12 49 := ⟨kin_12 ht 0 (by decide), fun _ _ _ _ _ => ⟨_, rfl, Nat.le_of_ble_eq_true rfl, rfl⟩⟩
theorem fg_12_50 (ht : t < 1) : FdG (XM l D ad cid) 12 t 12 50 (fun I L B R => .int (I 50)) := ⟨kin_12 ht 0 (by decide), fun _ _ _ _ => ⟨_, rfl, rfl⟩⟩
theorem fs_12_50 (ht : t < 1) : FdI (XM l D ad cid) 12 t 12 50 := ⟨kin_12 ht 0 (by decide), fun _ _ _ _ _ => ⟨_, rfl, Nat.le_of_ble_eq_true rfl, rfl⟩⟩
theorem fg_12_51 (ht : t < 1) : FdG (XM l D ad cid) 12 t 12 51 (fun I L B R => .int (I 51)) := ⟨kin_12 ht 0 (by decide), fun _ _ _ _ => ⟨_, rfl, rfl⟩⟩
theorem fs_12_51 (ht : t < 1) : FdI (XM l D ad cid) 12 t 12 51 := ⟨kin_12 ht 0 (by decide), fun _ _ _ _ _ => ⟨_, rfl, Nat.le_of_ble_eq_true rfl, rfl⟩⟩
theorem fg_12_52 (ht : t < 1) : FdG (XM l D ad cid) 12 t 12 52 (fun I L B R => .int (I 52)) := ⟨kin_12 ht 0 (by decide), fun _ _ _ _ => ⟨_, rfl, rfl⟩⟩
theorem fs_12_52 (ht : t < 1) : FdI (XM l D ad cid) 12 t 12 52 := ⟨kin_12 ht 0 (by decide), fun _ _ _ _ _ => ⟨_, rfl, Nat.le_of_ble_eq_true rfl, rfl⟩⟩
theorem fg_12_53 (ht : t < 1) : FdG (XM l D ad cid) 12 t 12 53 (fun I L B R => .int (I 53)) := ⟨kin_12 ht 0 (by decide), fun _ _ _ _ => ⟨_, rfl, rfl⟩⟩
theorem fs_12_53 (ht : t < 1) : FdI (XM l D ad cid) 12 t 12 53 := ⟨kin_12 ht 0 (by decide), fun _ _ _ _ _ => ⟨_, rfl, Nat.le_of_ble_eq_true rfl, rfl⟩⟩
theorem fg_12_54 (ht : t < 1) : FdG (XM l D ad cid) 12 t 12 54 (fun I L B R => .int (I 54)) := ⟨kin_12 ht 0 (by decide), fun _ _ _ _ => ⟨_, rfl, rfl⟩⟩
theorem fs_12_54 (ht : t < 1) : FdI (XM l D ad cid) 12 t 12 54 := ⟨kin_12 ht 0 (by decide), fun _ _ _ _ _ => ⟨_, rfl, Nat.le_of_ble_eq_true rfl, rfl⟩⟩
theorem fg_12_55 (ht : t < 1) : FdG (XM l D ad cid) 12 t 12 55 (fun I L B R => .int (I 55)) := ⟨kin_12 ht 0 (by decide), fun _ _ _ _ => ⟨_, rfl, rfl⟩⟩
theorem fs_12_55 (ht : t < 1) : FdI (XM l D ad cid) 12 t 12 55 := ⟨kin_12 ht 0 (by decide), fun _ _ _ _ _ => ⟨_, rfl, Nat.le_of_ble_eq_true rfl, rfl⟩⟩
theorem fg_12_56 (ht : t < 1) : FdG (XM l D ad cid) 12 t 12 56 (fun I L B R => .int (I 56)) := ⟨kin_12 ht 0 (by decide), fun _ _ _ _ => ⟨_, rfl, rfl⟩⟩
theorem fs_12_56 (ht : t < 1) : FdI (XM l D ad cid) 12 t 12 56 := ⟨kin_12 ht 0 (by decide), fun _ _ _ _ _ => ⟨_, rfl, Nat.le_of_ble_eq_true rfl, rfl⟩⟩
theorem fg_12_57 (ht : t < 1) : FdG (XM l D ad cid) 12 t 12 57 (fun I L B R => .int (I 57)) := ⟨kin_12 ht 0 (by decide), fun _ _ _ _ => ⟨_, rfl, rfl⟩⟩
theorem fs_12_57 (ht : t < 1) : FdI (XM l D ad cid) 12 t 12 57 := ⟨kin_12 ht 0 (by decide), fun _ _ _ _ _ => ⟨_, rfl, Nat.le_of_ble_eq_true rfl, rfl⟩⟩
theorem fg_12_58 (ht : t < 1) : FdG (XM l D ad cid) 12 t 12 58 (fun I L B R => .int (I 58)) := ⟨kin_12 ht 0 (by decide), fun _ _ _ _ => ⟨_, rfl, rfl⟩⟩
theorem fs_12_58 (ht : t < 1) : FdI (XM l D ad cid) 12 t 12 58 := ⟨kin_12 ht 0 (by decide), fun _ _ _ _ _ => ⟨_, rfl, Nat.le_of_ble_eq_true rfl, rfl⟩⟩
theorem fg_12_59 (ht : t < 1) : FdG (XM l D ad cid) 12 t 12 59 (fun I L B R => .int (I 59)) := ⟨kin_12 ht 0 (by decide), fun _ _ _ _ => ⟨_, rfl, rfl⟩⟩
theorem fs_12_59 (ht : t < 1) : FdI (XM l D ad cid) 12 t 12 59 := ⟨kin_12 ht 0 (by decide), fun _ _ _ _ _ => ⟨_, rfl, Nat.le_of_ble_eq_true rfl, rfl⟩⟩
theorem fg_12_60 (ht : t < 1) : FdG (XM l D ad cid) 12 t 12 60 (fun I L B R => .int (I 60)) := ⟨kin_12 ht 0 (by decide), fun _ _ _ _ => ⟨_, rfl, rfl⟩⟩
theorem fs_12_60 (ht : t < 1) : FdI (XM l D ad cid) 12 t 12 60 := ⟨kin_12 ht 0 (by decide), fun _ _ _ _ _ => ⟨_, rfl, Nat.le_of_ble_eq_true rfl, rfl⟩⟩
end LM
