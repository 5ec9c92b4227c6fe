def sh0 (ad : Nat → Nat → Nat → Nat) (cid : Nat → Nat → Nat → ClassId) (b c : Nat) (I : Nat → Int32) (L : Nat → Int64) (B : Nat → Bool) (R : Nat → Nat) : va_E := match c with
  | 0 => .inr (0, [.ref (ad 0 b 1), .ref (ad 0 b 2)])
  | 1 => .inl (cid 0 b 1, 41, .inl I)
  | 2 => .inl (cid 0 b 2, 53, .inl I)
  | _ => .inr (0, [])
def sh1 (ad : Nat → Nat → Nat → Nat) (cid : Nat → Nat → Nat → ClassId) (b c : Nat) (I : Nat → Int32) (L : Nat → Int64) (B : Nat → Bool) (R : Nat → Nat) : va_E := match c with
  | 0 => .inr (1, [.int (b2i (B 0)), .int (I 1), .long (L 2), .long (L 3)])
  | _ => .inr (0, [])
def sh2 (ad : Nat → Nat → Nat → Nat) (cid : Nat → Nat → Nat → ClassId) (b c : Nat) (I : Nat → Int32) (L : Nat → Int64) (B : Nat → Bool) (R : Nat → Nat) : va_E := match c with
  | 0 => .inr (2, [.ref (ad 2 b 1), .int (I 1), .ref (ad 2 b 2)])
  | 1 => .inl (cid 2 b 1, 21, .inl I)
  | 2 => .inl (cid 2 b 2, 101, .inr (.inl L))
  | _ => .inr (0, [])
def sh3 (ad : Nat → Nat → Nat → Nat) (cid : Nat → Nat → Nat → ClassId) (b c : Nat) (I : Nat → Int32) (L : Nat → Int64) (B : Nat → Bool) (R : Nat → Nat) : va_E := match c with
  | 0 => .inr (3, [.ref (ad 9 (2 + b) 0), .ref (ad 5 (2 + b) 0), .ref (ad 7 (2 + b) 0)])
  | _ => .inr (0, [])
def sh4 (ad : Nat → Nat → Nat → Nat) (cid : Nat → Nat → Nat → ClassId) (b c : Nat) (I : Nat → Int32) (L : Nat → Int64) (B : Nat → Bool) (R : Nat → Nat) : va_E := match c with
  | 0 => .inr (4, [.int (b2i (B 0)), .int (I 1), .int (I 2), .int (I 3), .int (I 4), .int (I 5), .int (I 6), .int (I 7), .int (I 8), .int (I 9), .ref (ad 4 b 1), .ref (ad 6 (1 + b) 0)])
  | 1 => .inl (cid 4 b 1, 60, .inl I)
  | _ => .inr (0, [])
def sh5 (ad : Nat → Nat → Nat → Nat) (cid : Nat → Nat → Nat → ClassId) (b c : Nat) (I : Nat → Int32) (L : Nat → Int64) (B : Nat → Bool) (R : Nat → Nat) : va_E := match c with
  | 0 => .inr (5, [.int (b2i (B 0)), .int (I 1), .int (I 2), .ref (ad 5 b 1), .ref (ad 5 b 2), .ref (ad 5 b 3), .ref (ad 5 b 4), .ref (ad 5 b 5), .int (I 8), .ref (ad 5 b 6)])
  | 1 => .inl (cid 5 b 1, 60, .inl I)
  | 2 => .inl (cid 5 b 2, 60, .inl I)
  | 3 => .inl (cid 5 b 3, 60, .inl I)
  | 4 => .inl (cid 5 b 4, 60, .inl I)
  | 5 => .inl (cid 5 b 5, 60, .inl I)
  | 6 => .inl (cid 5 b 6, 3, .inl I)
  | _ => .inr (0, [])
def sh6 (ad : Nat → Nat → Nat → Nat) (cid : Nat → Nat → Nat → ClassId) (b c : Nat) (I : Nat → Int32) (L : Nat → Int64) (B : Nat → Bool) (R : Nat → Nat) : va_E := match c with
  | 0 => .inr (6, [.int (I 0), .int (I 1), .int (I 2), .int (I 3), .int (I 4), .int (I 5), .int (I 6), .int (I 7), .int (I 8), .int (I 9), .int (I 10), .int (I 11), .int (I 12), .int (I 13)])
  | _ => .inr (0, [])
def sh7 (ad : Nat → Nat → Nat → Nat) (cid : Nat → Nat → Nat → ClassId) (b c : Nat) (I : Nat → Int32) (L : Nat → Int64) (B : Nat → Bool) (R : Nat → Nat) : va_E := match c with
  | 0 => .inr (7, [.int (I 0), .int (I 1), .ref (ad 7 b 1), .ref (ad 7 b 2), .ref (ad 7 b 3), .ref (ad 7 b 4), .ref (ad 7 b 5), .int (I 7), .long (L 8), .long (L 9), .long (L 10)])
  | 1 => .inl (cid 7 b 1, 60, .inl I)
  | 2 => .inl (cid 7 b 2, 60, .inl I)
  | 3 => .inl (cid 7 b 3, 60, .inl I)
  | 4 => .inl (cid 7 b 4, 60, .inl I)
  | 5 => .inl (cid 7 b 5, 6, .inl I)
  | _ => .inr (0, [])
def sh8 (ad : Nat → Nat → Nat → Nat) (cid : Nat → Nat → Nat → ClassId) (b c : Nat) (I : Nat → Int32) (L : Nat → Int64) (B : Nat → Bool) (R : Nat → Nat) : va_E := match c with
  | 0 => .inr (8, [.ref (ad 8 b 1), .int (I 1), .int (I 2), .int (I 3), .int (I 4), .int (I 5), .long (L 6), .int (I 7), .int (I 8), .int (I 9), .int (I 10), .int (I 11), .int (I 12), .ref (ad 8 b 2)])
  | 1 => .inl (cid 8 b 1, 900, .inl I)
  | 2 => .inl (cid 8 b 2, 30, .inr (.inl L))
  | _ => .inr (0, [])
def sh9 (ad : Nat → Nat → Nat → Nat) (cid : Nat → Nat → Nat → ClassId) (b c : Nat) (I : Nat → Int32) (L : Nat → Int64) (B : Nat → Bool) (R : Nat → Nat) : va_E := match c with
  | 0 => .inr (9, [.int (I 0), .int (I 1), .int (I 2), .int (I 3), .int (I 4), .ref (ad 9 b 1), .ref (ad 9 b 2), .int (I 7), .ref (ad 9 b 3), .ref (ad 9 b 4), .ref (ad 9 b 5), .ref (ad 9 b 6), .ref (ad 9 b 7), .int (I 13), .ref (ad 9 b 8), .ref (ad 9 b 9), .ref (ad 9 b 10), .ref (ad 9 b 11), .ref (ad 9 b 12), .int (I 19)])
  | 1 => .inl (cid 9 b 1, 6, .inl I)
  | 2 => .inl (cid 9 b 2, 6, .inl I)
  | 3 => .inl (cid 9 b 3, 8, .inr (.inl L))
  | 4 => .inl (cid 9 b 4, 8, .inl I)
  | 5 => .inl (cid 9 b 5, 8, .inl I)
  | 6 => .inl (cid 9 b 6, 8, .inl I)
  | 7 => .inl (cid 9 b 7, 8, .inl I)
  | 8 => .inl (cid 9 b 8, 6, .inr (.inl L))
  | 9 => .inl (cid 9 b 9, 6, .inl I)
  | 10 => .inl (cid 9 b 10, 6, .inl I)
  | 11 => .inl (cid 9 b 11, 6, .inl I)
  | 12 => .inl (cid 9 b 12, 6, .inl I)
  | _ => .inr (0, [])
def sh10 (ad : Nat → Nat → Nat → Nat) (cid : Nat → Nat → Nat → ClassId) (b c : Nat) (I : Nat → Int32) (L : Nat → Int64) (B : Nat → Bool) (R : Nat → Nat) : va_E := match c with
  | 0 => .inr (10, [.int (b2i (B 0)), .int (I 1), .int (I 2), .ref (ad 10 b 1)])
  | 1 => .inl (cid 10 b 1, 60, .inr (.inl L))
  | _ => .inr (0, [])
def sh11 (ad : Nat → Nat → Nat → Nat) (cid : Nat → Nat → Nat → ClassId) (b c : Nat) (I : Nat → Int32) (L : Nat → Int64) (B : Nat → Bool) (R : Nat → Nat) : va_E := match c with
  | 0 => .inr (11, [.int (I 0), .long (L 1), .long (L 2), .ref (ad 11 b 1), .ref (ad 8 0 0), .ref (ad 9 (R 5) 0), .ref (ad 9 (R 6) 0), .ref (ad 5 (R 7) 0), .ref (ad 5 (R 8) 0), .ref (ad 7 0 0), .ref (ad 7 1 0), .ref (ad 11 b 2), .int (I 12), .ref (ad 6 0 0), .ref (ad 2 0 0), .ref (ad 11 b 3), .ref (ad 0 0 0), .ref (ad 1 0 0), .ref (ad 4 0 0), .ref (ad 4 1 0)])
  | 1 => .inl (cid 11 b 1, 4, .inr (.inr (.inr (.inr (fun k => some (ad 10 k 0))))))
  | 2 => .inl (cid 11 b 2, 3, .inr (.inr (.inr (.inr (fun k => some (ad 3 k 0))))))
  | 3 => .inl (cid 11 b 3, 4, .inr (.inr (.inr (.inr (fun k => some (ad 2 (1 + k) 0))))))
  | _ => .inr (0, [])
def shC (ad : Nat → Nat → Nat → Nat) (cid : Nat → Nat → Nat → ClassId) (a b c : Nat) (I : Nat → Int32) (L : Nat → Int64) (B : Nat → Bool) (R : Nat → Nat) : va_E := match a with
  | 0 => sh0 ad cid b c I L B R
  | 1 => sh1 ad cid b c I L B R
  | 2 => sh2 ad cid b c I L B R
  | 3 => sh3 ad cid b c I L B R
  | 4 => sh4 ad cid b c I L B R
  | 5 => sh5 ad cid b c I L B R
  | 6 => sh6 ad cid b c I L B R
  | 7 => sh7 ad cid b c I L B R
  | 8 => sh8 ad cid b c I L B R
  | 9 => sh9 ad cid b c I L B R
  | 10 => sh10 ad cid b c I L B R
  | 11 => sh11 ad cid b c I L B R
  | _ => .inr (0, [])
def keysC : List (Nat × Nat × Nat) := [(0, 0, 0), (0, 0, 1), (0, 0, 2), (1, 0, 0), (2, 0, 0), (2, 0, 1), (2, 0, 2), (2, 1, 0), (2, 1, 1), (2, 1, 2), (2, 2, 0), (2, 2, 1), (2, 2, 2), (2, 3, 0), (2, 3, 1), (2, 3, 2), (2, 4, 0), (2, 4, 1), (2, 4, 2), (3, 0, 0), (3, 1, 0), (3, 2, 0), (4, 0, 0), (4, 0, 1), (4, 1, 0), (4, 1, 1), (5, 0, 0), (5, 0, 1), (5, 0, 2), (5, 0, 3), (5, 0, 4), (5, 0, 5), (5, 0, 6), (5, 1, 0), (5, 1, 1), (5, 1, 2), (5, 1, 3), (5, 1, 4), (5, 1, 5), (5, 1, 6), (5, 2, 0), (5, 2, 1), (5, 2, 2), (5, 2, 3), (5, 2, 4), (5, 2, 5), (5, 2, 6), (5, 3, 0), (5, 3, 1), (5, 3, 2), (5, 3, 3), (5, 3, 4), (5, 3, 5), (5, 3, 6), (5, 4, 0), (5, 4, 1), (5, 4, 2), (5, 4, 3), (5, 4, 4), (5, 4, 5), (5, 4, 6), (6, 0, 0), (6, 1, 0), (6, 2, 0), (7, 0, 0), (7, 0, 1), (7, 0, 2), (7, 0, 3), (7, 0, 4), (7, 0, 5), (7, 1, 0), (7, 1, 1), (7, 1, 2), (7, 1, 3), (7, 1, 4), (7, 1, 5), (7, 2, 0), (7, 2, 1), (7, 2, 2), (7, 2, 3), (7, 2, 4), (7, 2, 5), (7, 3, 0), (7, 3, 1), (7, 3, 2), (7, 3, 3), (7, 3, 4), (7, 3, 5), (7, 4, 0), (7, 4, 1), (7, 4, 2), (7, 4, 3), (7, 4, 4), (7, 4, 5), (8, 0, 0), (8, 0, 1), (8, 0, 2), (9, 0, 0), (9, 0, 1), (9, 0, 2), (9, 0, 3), (9, 0, 4), (9, 0, 5), (9, 0, 6), (9, 0, 7), (9, 0, 8), (9, 0, 9), (9, 0, 10), (9, 0, 11), (9, 0, 12), (9, 1, 0), (9, 1, 1), (9, 1, 2), (9, 1, 3), (9, 1, 4), (9, 1, 5), (9, 1, 6), (9, 1, 7), (9, 1, 8), (9, 1, 9), (9, 1, 10), (9, 1, 11), (9, 1, 12), (9, 2, 0), (9, 2, 1), (9, 2, 2), (9, 2, 3), (9, 2, 4), (9, 2, 5), (9, 2, 6), (9, 2, 7), (9, 2, 8), (9, 2, 9), (9, 2, 10), (9, 2, 11), (9, 2, 12), (9, 3, 0), (9, 3, 1), (9, 3, 2), (9, 3, 3), (9, 3, 4), (9, 3, 5), (9, 3, 6), (9, 3, 7), (9, 3, 8), (9, 3, 9), (9, 3, 10), (9, 3, 11), (9, 3, 12), (9, 4, 0), (9, 4, 1), (9, 4, 2), (9, 4, 3), (9, 4, 4), (9, 4, 5), (9, 4, 6), (9, 4, 7), (9, 4, 8), (9, 4, 9), (9, 4, 10), (9, 4, 11), (9, 4, 12), (10, 0, 0), (10, 0, 1), (10, 1, 0), (10, 1, 1), (10, 2, 0), (10, 2, 1), (10, 3, 0), (10, 3, 1), (11, 0, 0), (11, 0, 1), (11, 0, 2), (11, 0, 3)]
def arrC : List (Nat × Nat × Nat × FieldType) := [(0, 0, 1, .int), (0, 0, 2, .int), (2, 0, 1, .int), (2, 0, 2, .long), (2, 1, 1, .int), (2, 1, 2, .long), (2, 2, 1, .int), (2, 2, 2, .long), (2, 3, 1, .int), (2, 3, 2, .long), (2, 4, 1, .int), (2, 4, 2, .long), (4, 0, 1, .int), (4, 1, 1, .int), (5, 0, 1, .int), (5, 0, 2, .int), (5, 0, 3, .int), (5, 0, 4, .int), (5, 0, 5, .int), (5, 0, 6, .int), (5, 1, 1, .int), (5, 1, 2, .int), (5, 1, 3, .int), (5, 1, 4, .int), (5, 1, 5, .int), (5, 1, 6, .int), (5, 2, 1, .int), (5, 2, 2, .int), (5, 2, 3, .int), (5, 2, 4, .int), (5, 2, 5, .int), (5, 2, 6, .int), (5, 3, 1, .int), (5, 3, 2, .int), (5, 3, 3, .int), (5, 3, 4, .int), (5, 3, 5, .int), (5, 3, 6, .int), (5, 4, 1, .int), (5, 4, 2, .int), (5, 4, 3, .int), (5, 4, 4, .int), (5, 4, 5, .int), (5, 4, 6, .int), (7, 0, 1, .int), (7, 0, 2, .int), (7, 0, 3, .int), (7, 0, 4, .int), (7, 0, 5, .int), (7, 1, 1, .int), (7, 1, 2, .int), (7, 1, 3, .int), (7, 1, 4, .int), (7, 1, 5, .int), (7, 2, 1, .int), (7, 2, 2, .int), (7, 2, 3, .int), (7, 2, 4, .int), (7, 2, 5, .int), (7, 3, 1, .int), (7, 3, 2, .int), (7, 3, 3, .int), (7, 3, 4, .int), (7, 3, 5, .int), (7, 4, 1, .int), (7, 4, 2, .int), (7, 4, 3, .int), (7, 4, 4, .int), (7, 4, 5, .int), (8, 0, 1, .byte), (8, 0, 2, .long), (9, 0, 1, .int), (9, 0, 2, .int), (9, 0, 3, .long), (9, 0, 4, .int), (9, 0, 5, .int), (9, 0, 6, .int), (9, 0, 7, .int), (9, 0, 8, .long), (9, 0, 9, .int), (9, 0, 10, .int), (9, 0, 11, .int), (9, 0, 12, .int), (9, 1, 1, .int), (9, 1, 2, .int), (9, 1, 3, .long), (9, 1, 4, .int), (9, 1, 5, .int), (9, 1, 6, .int), (9, 1, 7, .int), (9, 1, 8, .long), (9, 1, 9, .int), (9, 1, 10, .int), (9, 1, 11, .int), (9, 1, 12, .int), (9, 2, 1, .int), (9, 2, 2, .int), (9, 2, 3, .long), (9, 2, 4, .int), (9, 2, 5, .int), (9, 2, 6, .int), (9, 2, 7, .int), (9, 2, 8, .long), (9, 2, 9, .int), (9, 2, 10, .int), (9, 2, 11, .int), (9, 2, 12, .int), (9, 3, 1, .int), (9, 3, 2, .int), (9, 3, 3, .long), (9, 3, 4, .int), (9, 3, 5, .int), (9, 3, 6, .int), (9, 3, 7, .int), (9, 3, 8, .long), (9, 3, 9, .int), (9, 3, 10, .int), (9, 3, 11, .int), (9, 3, 12, .int), (9, 4, 1, .int), (9, 4, 2, .int), (9, 4, 3, .long), (9, 4, 4, .int), (9, 4, 5, .int), (9, 4, 6, .int), (9, 4, 7, .int), (9, 4, 8, .long), (9, 4, 9, .int), (9, 4, 10, .int), (9, 4, 11, .int), (9, 4, 12, .int), (10, 0, 1, .long), (10, 1, 1, .long), (10, 2, 1, .long), (10, 3, 1, .long), (11, 0, 1, .object "PeaTube$Tray"), (11, 0, 2, .object "PeaTube$Kept"), (11, 0, 3, .object "PeaTube$Chances")]
def tysC (cid : Nat → Nat → Nat → ClassId) : List (ClassId × FieldType) := arrC.map (fun q => (cid q.1 q.2.1 q.2.2.1, q.2.2.2))
abbrev XC (l : Launch) (D : va_G) (ad : Nat → Nat → Nat → Nat) (cid : Nat → Nat → Nat → ClassId) : Ctx := (l, D, tysC cid, (keysC, ad, shC ad cid))
theorem nodupC : keysC.Nodup := by decide +kernel
section LC
variable {l : Launch} {D : va_G} {ad : Nat → Nat → Nat → Nat} {cid : Nat → Nat → Nat → ClassId} {t : Nat}
theorem ci_0 : CI 0 RX0 TX0 2 tyX0 := ⟨rfl, fun w hw => of_decide_eq_true (List.all_eq_true.mp (by decide +kernel : (u_ws RX0 TX0 2).all (fun w => decide (w ∈ Gw)) = true) w hw), tyX0_ok, nmX0⟩
theorem kk_0 : ∀ t, t < 1 → ∀ c, c < 3 → (0, t, c) ∈ keysC := by decide +kernel
theorem kin_0 (ht : t < 1) (c : Nat) (hc : c < 3) : Kin (XC l D ad cid) 0 t c := ⟨kk_0 t ht c hc, nodupC⟩
theorem io_0 (ht : t < 1) : IsO (XC l D ad cid) 0 t 0 := ⟨kin_0 ht 0 (by decide), fun _ _ _ _ => ⟨_, rfl⟩⟩
theorem fg_0_0 (ht : t < 1) : FdG (XC l D ad cid) 0 t 0 0 (fun I L B R => .ref (ad 0 t 1)) := ⟨kin_0 ht 0 (by decide), fun _ _ _ _ => ⟨_, rfl, rfl⟩⟩
theorem aa_0_1 : ∀ t, t < 1 → ((0, t, 1, .int) : Nat × Nat × Nat × FieldType) ∈ arrC := by decide +kernel
theorem ar_0_1 (ht : t < 1) : IsI (XC l D ad cid) 0 t 1 41 .int := ⟨kin_0 ht 1 (by decide), cid 0 t 1, List.mem_map.mpr ⟨(0, t, 1, .int), aa_0_1 t ht, rfl⟩, fun _ _ _ _ => rfl⟩
theorem fg_0_1 (ht : t < 1) : FdG (XC l D ad cid) 0 t 0 1 (fun I L B R => .ref (ad 0 t 2)) := ⟨kin_0 ht 0 (by decide), fun _ _ _ _ => ⟨_, rfl, rfl⟩⟩
theorem aa_0_2 : ∀ t, t < 1 → ((0, t, 2, .int) : Nat × Nat × Nat × FieldType) ∈ arrC := by decide +kernel
theorem ar_0_2 (ht : t < 1) : IsI (XC l D ad cid) 0 t 2 53 .int := ⟨kin_0 ht 2 (by decide), cid 0 t 2, List.mem_map.mpr ⟨(0, t, 2, .int), aa_0_2 t ht, rfl⟩, fun _ _ _ _ => rfl⟩
theorem ci_1 : CI 1 RX1 TX1 4 tyX1 := ⟨rfl, fun w hw => of_decide_eq_true (List.all_eq_true.mp (by decide +kernel : (u_ws RX1 TX1 4).all (fun w => decide (w ∈ Gw)) = true) w hw), tyX1_ok, nmX1⟩
theorem kk_1 : ∀ t, t < 1 → ∀ c, c < 1 → (1, t, c) ∈ keysC := by decide +kernel
theorem kin_1 (ht : t < 1) (c : Nat) (hc : c < 1) : Kin (XC l D ad cid) 1 t c := ⟨kk_1 t ht c hc, nodupC⟩
theorem io_1 (ht : t < 1) : IsO (XC l D ad cid) 1 t 1 := ⟨kin_1 ht 0 (by decide), fun _ _ _ _ => ⟨_, rfl⟩⟩
theorem fg_1_0 (ht : t < 1) : FdG (XC l D ad cid) 1 t 1 0 (fun I L B R => .int (b2i (B 0))) := ⟨kin_1 ht 0 (by decide), fun _ _ _ _ => ⟨_, rfl, rfl⟩⟩
theorem fs_1_0 (ht : t < 1) : FdB (XC l D ad cid) 1 t 1 0 := ⟨kin_1 ht 0 (by decide), fun _ _ _ _ _ => ⟨_, rfl, Nat.le_of_ble_eq_true rfl, rfl⟩⟩
theorem fg_1_1 (ht : t < 1) : FdG (XC l D ad cid) 1 t 1 1 (fun I L B R => .int (I 1)) := ⟨kin_1 ht 0 (by decide), fun _ _ _ _ => ⟨_, rfl, rfl⟩⟩
theorem fs_1_1 (ht : t < 1) : FdI (XC l D ad cid) 1 t 1 1 := ⟨kin_1 ht 0 (by decide), fun _ _ _ _ _ => ⟨_, rfl, Nat.le_of_ble_eq_true rfl, rfl⟩⟩
theorem fg_1_2 (ht : t < 1) : FdG (XC l D ad cid) 1 t 1 2 (fun I L B R => .long (L 2)) := ⟨kin_1 ht 0 (by decide), fun _ _ _ _ => ⟨_, rfl, rfl⟩⟩
theorem fs_1_2 (ht : t < 1) : FdL (XC l D ad cid) 1 t 1 2 := ⟨kin_1 ht 0 (by decide), fun _ _ _ _ _ => ⟨_, rfl, Nat.le_of_ble_eq_true rfl, rfl⟩⟩
theorem fg_1_3 (ht : t < 1) : FdG (XC l D ad cid) 1 t 1 3 (fun I L B R => .long (L 3)) := ⟨kin_1 ht 0 (by decide), fun _ _ _ _ => ⟨_, rfl, rfl⟩⟩
theorem fs_1_3 (ht : t < 1) : FdL (XC l D ad cid) 1 t 1 3 := ⟨kin_1 ht 0 (by decide), fun _ _ _ _ _ => ⟨_, rfl, Nat.le_of_ble_eq_true rfl, rfl⟩⟩
theorem ci_2 : CI 2 RX2 TX2 3 tyX2 := ⟨rfl, fun w hw => of_decide_eq_true (List.all_eq_true.mp (by decide +kernel : (u_ws RX2 TX2 3).all (fun w => decide (w ∈ Gw)) = true) w hw), tyX2_ok, nmX2⟩
theorem kk_2 : ∀ t, t < 5 → ∀ c, c < 3 → (2, t, c) ∈ keysC := by decide +kernel
theorem kin_2 (ht : t < 5) (c : Nat) (hc : c < 3) : Kin (XC l D ad cid) 2 t c := ⟨kk_2 t ht c hc, nodupC⟩
theorem io_2 (ht : t < 5) : IsO (XC l D ad cid) 2 t 2 := ⟨kin_2 ht 0 (by decide), fun _ _ _ _ => ⟨_, rfl⟩⟩
theorem fg_2_0 (ht : t < 5) : FdG (XC l D ad cid) 2 t 2 0 (fun I L B R => .ref (ad 2 t 1)) := ⟨kin_2 ht 0 (by decide), fun _ _ _ _ => ⟨_, rfl, rfl⟩⟩
theorem aa_2_1 : ∀ t, t < 5 → ((2, t, 1, .int) : Nat × Nat × Nat × FieldType) ∈ arrC := by decide +kernel
theorem ar_2_1 (ht : t < 5) : IsI (XC l D ad cid) 2 t 1 21 .int := ⟨kin_2 ht 1 (by decide), cid 2 t 1, List.mem_map.mpr ⟨(2, t, 1, .int), aa_2_1 t ht, rfl⟩, fun _ _ _ _ => rfl⟩
theorem fg_2_1 (ht : t < 5) : FdG (XC l D ad cid) 2 t 2 1 (fun I L B R => .int (I 1)) := ⟨kin_2 ht 0 (by decide), fun _ _ _ _ => ⟨_, rfl, rfl⟩⟩
theorem fs_2_1 (ht : t < 5) : FdI (XC l D ad cid) 2 t 2 1 := ⟨kin_2 ht 0 (by decide), fun _ _ _ _ _ => ⟨_, rfl, Nat.le_of_ble_eq_true rfl, rfl⟩⟩
theorem fg_2_2 (ht : t < 5) : FdG (XC l D ad cid) 2 t 2 2 (fun I L B R => .ref (ad 2 t 2)) := ⟨kin_2 ht 0 (by decide), fun _ _ _ _ => ⟨_, rfl, rfl⟩⟩
theorem aa_2_2 : ∀ t, t < 5 → ((2, t, 2, .long) : Nat × Nat × Nat × FieldType) ∈ arrC := by decide +kernel
theorem ar_2_2 (ht : t < 5) : IsL (XC l D ad cid) 2 t 2 101 := ⟨kin_2 ht 2 (by decide), cid 2 t 2, List.mem_map.mpr ⟨(2, t, 2, .long), aa_2_2 t ht, rfl⟩, fun _ _ _ _ => rfl⟩
theorem ci_3 : CI 3 RX3 TX3 3 tyX3 := ⟨rfl, fun w hw => of_decide_eq_true (List.all_eq_true.mp (by decide +kernel : (u_ws RX3 TX3 3).all (fun w => decide (w ∈ Gw)) = true) w hw), tyX3_ok, nmX3⟩
theorem kk_3 : ∀ t, t < 3 → ∀ c, c < 1 → (3, t, c) ∈ keysC := by decide +kernel
theorem kin_3 (ht : t < 3) (c : Nat) (hc : c < 1) : Kin (XC l D ad cid) 3 t c := ⟨kk_3 t ht c hc, nodupC⟩
theorem io_3 (ht : t < 3) : IsO (XC l D ad cid) 3 t 3 := ⟨kin_3 ht 0 (by decide), fun _ _ _ _ => ⟨_, rfl⟩⟩
theorem fg_3_0 (ht : t < 3) : FdG (XC l D ad cid) 3 t 3 0 (fun I L B R => .ref (ad 9 (2 + t) 0)) := ⟨kin_3 ht 0 (by decide), fun _ _ _ _ => ⟨_, rfl, rfl⟩⟩
theorem fg_3_1 (ht : t < 3) : FdG (XC l D ad cid) 3 t 3 1 (fun I L B R => .ref (ad 5 (2 + t) 0)) := ⟨kin_3 ht 0 (by decide), fun _ _ _ _ => ⟨_, rfl, rfl⟩⟩
theorem fg_3_2 (ht : t < 3) : FdG (XC l D ad cid) 3 t 3 2 (fun I L B R => .ref (ad 7 (2 + t) 0)) := ⟨kin_3 ht 0 (by decide), fun _ _ _ _ => ⟨_, rfl, rfl⟩⟩
theorem ci_4 : CI 4 RX4 TX4 12 tyX4 := ⟨rfl, fun w hw => of_decide_eq_true (List.all_eq_true.mp (by decide +kernel : (u_ws RX4 TX4 12).all (fun w => decide (w ∈ Gw)) = true) w hw), tyX4_ok, nmX4⟩
theorem kk_4 : ∀ t, t < 2 → ∀ c, c < 2 → (4, t, c) ∈ keysC := by decide +kernel
theorem kin_4 (ht : t < 2) (c : Nat) (hc : c < 2) : Kin (XC l D ad cid) 4 t c := ⟨kk_4 t ht c hc, nodupC⟩
theorem io_4 (ht : t < 2) : IsO (XC l D ad cid) 4 t 4 := ⟨kin_4 ht 0 (by decide), fun _ _ _ _ => ⟨_, rfl⟩⟩
theorem fg_4_0 (ht : t < 2) : FdG (XC l D ad cid) 4 t 4 0 (fun I L B R => .int (b2i (B 0))) := ⟨kin_4 ht 0 (by decide), fun _ _ _ _ => ⟨_, rfl, rfl⟩⟩
theorem fs_4_0 (ht : t < 2) : FdB (XC l D ad cid) 4 t 4 0 := ⟨kin_4 ht 0 (by decide), fun _ _ _ _ _ => ⟨_, rfl, Nat.le_of_ble_eq_true rfl, rfl⟩⟩
theorem fg_4_1 (ht : t < 2) : FdG (XC l D ad cid) 4 t 4 1 (fun I L B R => .int (I 1)) := ⟨kin_4 ht 0 (by decide), fun _ _ _ _ => ⟨_, rfl, rfl⟩⟩
theorem fs_4_1 (ht : t < 2) : FdI (XC l D ad cid) 4 t 4 1 := ⟨kin_4 ht 0 (by decide), fun _ _ _ _ _ => ⟨_, rfl, Nat.le_of_ble_eq_true rfl, rfl⟩⟩
theorem fg_4_2 (ht : t < 2) : FdG (XC l D ad cid) 4 t 4 2 (fun I L B R => .int (I 2)) := ⟨kin_4 ht 0 (by decide), fun _ _ _ _ => ⟨_, rfl, rfl⟩⟩
theorem fs_4_2 (ht : t < 2) : FdI (XC l D ad cid) 4 t 4 2 := ⟨kin_4 ht 0 (by decide), fun _ _ _ _ _ => ⟨_, rfl, Nat.le_of_ble_eq_true rfl, rfl⟩⟩
theorem fg_4_3 (ht : t < 2) : FdG (XC l D ad cid) 4 t 4 3 (fun I L B R => .int (I 3)) := ⟨kin_4 ht 0 (by decide), fun _ _ _ _ => ⟨_, rfl, rfl⟩⟩
theorem fs_4_3 (ht : t < 2) : FdI (XC l D ad cid) 4 t 4 3 := ⟨kin_4 ht 0 (by decide), fun _ _ _ _ _ => ⟨_, rfl, Nat.le_of_ble_eq_true rfl, rfl⟩⟩
theorem fg_4_4 (ht : t < 2) : FdG (XC l D ad cid) 4 t 4 4 (fun I L B R => .int (I 4)) := ⟨kin_4 ht 0 (by decide), fun _ _ _ _ => ⟨_, rfl, rfl⟩⟩
theorem fs_4_4 (ht : t < 2) : FdI (XC l D ad cid) 4 t 4 4 := ⟨kin_4 ht 0 (by decide), fun _ _ _ _ _ => ⟨_, rfl, Nat.le_of_ble_eq_true rfl, rfl⟩⟩
theorem fg_4_5 (ht : t < 2) : FdG (XC l D ad cid) 4 t 4 5 (fun I L B R => .int (I 5)) := ⟨kin_4 ht 0 (by decide), fun _ _ _ _ => ⟨_, rfl, rfl⟩⟩
theorem fs_4_5 (ht : t < 2) : FdI (XC l D ad cid) 4 t 4 5 := ⟨kin_4 ht 0 (by decide), fun _ _ _ _ _ => ⟨_, rfl, Nat.le_of_ble_eq_true rfl, rfl⟩⟩
theorem fg_4_6 (ht : t < 2) : FdG (XC l D ad cid) 4 t 4 6 (fun I L B R => .int (I 6)) := ⟨kin_4 ht 0 (by decide), fun _ _ _ _ => ⟨_, rfl, rfl⟩⟩
theorem fs_4_6 (ht : t < 2) : FdI (XC l D ad cid) 4 t 4 6 := ⟨kin_4 ht 0 (by decide), fun _ _ _ _ _ => ⟨_, rfl, Nat.le_of_ble_eq_true rfl, rfl⟩⟩
theorem fg_4_7 (ht : t < 2) : FdG (XC l D ad cid) 4 t 4 7 (fun I L B R => .int (I 7)) := ⟨kin_4 ht 0 (by decide), fun _ _ _ _ => ⟨_, rfl, rfl⟩⟩
theorem fs_4_7 (ht : t < 2) : FdI (XC l D ad cid) 4 t 4 7 := ⟨kin_4 ht 0 (by decide), fun _ _ _ _ _ => ⟨_, rfl, Nat.le_of_ble_eq_true rfl, rfl⟩⟩
theorem fg_4_8 (ht : t < 2) : FdG (XC l D ad cid) 4 t 4 8 (fun I L B R => .int (I 8)) := ⟨kin_4 ht 0 (by decide), fun _ _ _ _ => ⟨_, rfl, rfl⟩⟩
theorem fs_4_8 (ht : t < 2) : FdI (XC l D ad cid) 4 t 4 8 := ⟨kin_4 ht 0 (by decide), fun _ _ _ _ _ => ⟨_, rfl, Nat.le_of_ble_eq_true rfl, rfl⟩⟩
theorem fg_4_9 (ht : t < 2) : FdG (XC l D ad cid) 4 t 4 9 (fun I L B R => .int (I 9)) := ⟨kin_4 ht 0 (by decide), fun _ _ _ _ => ⟨_, rfl, rfl⟩⟩
theorem fs_4_9 (ht : t < 2) : FdI (XC l D ad cid) 4 t 4 9 := ⟨kin_4 ht 0 (by decide), fun _ _ _ _ _ => ⟨_, rfl, Nat.le_of_ble_eq_true rfl, rfl⟩⟩
theorem fg_4_10 (ht : t < 2) : FdG (XC l D ad cid) 4 t 4 10 (fun I L B R => .ref (ad 4 t 1)) := ⟨kin_4 ht 0 (by decide), fun _ _ _ _ => ⟨_, rfl, rfl⟩⟩
theorem aa_4_1 : ∀ t, t < 2 → ((4, t, 1, .int) : Nat × Nat × Nat × FieldType) ∈ arrC := by decide +kernel
theorem ar_4_1 (ht : t < 2) : IsI (XC l D ad cid) 4 t 1 60 .int := ⟨kin_4 ht 1 (by decide), cid 4 t 1, List.mem_map.mpr ⟨(4, t, 1, .int), aa_4_1 t ht, rfl⟩, fun _ _ _ _ => rfl⟩
theorem fg_4_11 (ht : t < 2) : FdG (XC l D ad cid) 4 t 4 11 (fun I L B R => .ref (ad 6 (1 + t) 0)) := ⟨kin_4 ht 0 (by decide), fun _ _ _ _ => ⟨_, rfl, rfl⟩⟩
theorem ci_5 : CI 5 RX5 TX5 10 tyX5 := ⟨rfl, fun w hw => of_decide_eq_true (List.all_eq_true.mp (by decide +kernel : (u_ws RX5 TX5 10).all (fun w => decide (w ∈ Gw)) = true) w hw), tyX5_ok, nmX5⟩
theorem kk_5 : ∀ t, t < 5 → ∀ c, c < 7 → (5, t, c) ∈ keysC := by decide +kernel
theorem kin_5 (ht : t < 5) (c : Nat) (hc : c < 7) : Kin (XC l D ad cid) 5 t c := ⟨kk_5 t ht c hc, nodupC⟩
theorem io_5 (ht : t < 5) : IsO (XC l D ad cid) 5 t 5 := ⟨kin_5 ht 0 (by decide), fun _ _ _ _ => ⟨_, rfl⟩⟩
theorem fg_5_0 (ht : t < 5) : FdG (XC l D ad cid) 5 t 5 0 (fun I L B R => .int (b2i (B 0))) := ⟨kin_5 ht 0 (by decide), fun _ _ _ _ => ⟨_, rfl, rfl⟩⟩
theorem fs_5_0 (ht : t < 5) : FdB (XC l D ad cid) 5 t 5 0 := ⟨kin_5 ht 0 (by decide), fun _ _ _ _ _ => ⟨_, rfl, Nat.le_of_ble_eq_true rfl, rfl⟩⟩
theorem fg_5_1 (ht : t < 5) : FdG (XC l D ad cid) 5 t 5 1 (fun I L B R => .int (I 1)) := ⟨kin_5 ht 0 (by decide), fun _ _ _ _ => ⟨_, rfl, rfl⟩⟩
theorem fs_5_1 (ht : t < 5) : FdI (XC l D ad cid) 5 t 5 1 := ⟨kin_5 ht 0 (by decide), fun _ _ _ _ _ => ⟨_, rfl, Nat.le_of_ble_eq_true rfl, rfl⟩⟩
theorem fg_5_2 (ht : t < 5) : FdG (XC l D ad cid) 5 t 5 2 (fun I L B R => .int (I 2)) := ⟨kin_5 ht 0 (by decide), fun _ _ _ _ => ⟨_, rfl, rfl⟩⟩
theorem fs_5_2 (ht : t < 5) : FdI (XC l D ad cid) 5 t 5 2 := ⟨kin_5 ht 0 (by decide), fun _ _ _ _ _ => ⟨_, rfl, Nat.le_of_ble_eq_true rfl, rfl⟩⟩
theorem fg_5_3 (ht : t < 5) : FdG (XC l D ad cid) 5 t 5 3 (fun I L B R => .ref (ad 5 t 1)) := ⟨kin_5 ht 0 (by decide), fun _ _ _ _ => ⟨_, rfl, rfl⟩⟩
theorem aa_5_1 : ∀ t, t < 5 → ((5, t, 1, .int) : Nat × Nat × Nat × FieldType) ∈ arrC := by decide +kernel
theorem ar_5_1 (ht : t < 5) : IsI (XC l D ad cid) 5 t 1 60 .int := ⟨kin_5 ht 1 (by decide), cid 5 t 1, List.mem_map.mpr ⟨(5, t, 1, .int), aa_5_1 t ht, rfl⟩, fun _ _ _ _ => rfl⟩
theorem fg_5_4 (ht : t < 5) : FdG (XC l D ad cid) 5 t 5 4 (fun I L B R => .ref (ad 5 t 2)) := ⟨kin_5 ht 0 (by decide), fun _ _ _ _ => ⟨_, rfl, rfl⟩⟩
theorem aa_5_2 : ∀ t, t < 5 → ((5, t, 2, .int) : Nat × Nat × Nat × FieldType) ∈ arrC := by decide +kernel
theorem ar_5_2 (ht : t < 5) : IsI (XC l D ad cid) 5 t 2 60 .int := ⟨kin_5 ht 2 (by decide), cid 5 t 2, List.mem_map.mpr ⟨(5, t, 2, .int), aa_5_2 t ht, rfl⟩, fun _ _ _ _ => rfl⟩
theorem fg_5_5 (ht : t < 5) : FdG (XC l D ad cid) 5 t 5 5 (fun I L B R => .ref (ad 5 t 3)) := ⟨kin_5 ht 0 (by decide), fun _ _ _ _ => ⟨_, rfl, rfl⟩⟩
theorem aa_5_3 : ∀ t, t < 5 → ((5, t, 3, .int) : Nat × Nat × Nat × FieldType) ∈ arrC := by decide +kernel
theorem ar_5_3 (ht : t < 5) : IsI (XC l D ad cid) 5 t 3 60 .int := ⟨kin_5 ht 3 (by decide), cid 5 t 3, List.mem_map.mpr ⟨(5, t, 3, .int), aa_5_3 t ht, rfl⟩, fun _ _ _ _ => rfl⟩
theorem fg_5_6 (ht : t < 5) : FdG (XC l D ad cid) 5 t 5 6 (fun I L B R => .ref (ad 5 t 4)) := ⟨kin_5 ht 0 (by decide), fun _ _ _ _ => ⟨_, rfl, rfl⟩⟩
theorem aa_5_4 : ∀ t, t < 5 → ((5, t, 4, .int) : Nat × Nat × Nat × FieldType) ∈ arrC := by decide +kernel
theorem ar_5_4 (ht : t < 5) : IsI (XC l D ad cid) 5 t 4 60 .int := ⟨kin_5 ht 4 (by decide), cid 5 t 4, List.mem_map.mpr ⟨(5, t, 4, .int), aa_5_4 t ht, rfl⟩, fun _ _ _ _ => rfl⟩
theorem fg_5_7 (ht : t < 5) : FdG (XC l D ad cid) 5 t 5 7 (fun I L B R => .ref (ad 5 t 5)) := ⟨kin_5 ht 0 (by decide), fun _ _ _ _ => ⟨_, rfl, rfl⟩⟩
theorem aa_5_5 : ∀ t, t < 5 → ((5, t, 5, .int) : Nat × Nat × Nat × FieldType) ∈ arrC := by decide +kernel
theorem ar_5_5 (ht : t < 5) : IsI (XC l D ad cid) 5 t 5 60 .int := ⟨kin_5 ht 5 (by decide), cid 5 t 5, List.mem_map.mpr ⟨(5, t, 5, .int), aa_5_5 t ht, rfl⟩, fun _ _ _ _ => rfl⟩
theorem fg_5_8 (ht : t < 5) : FdG (XC l D ad cid) 5 t 5 8 (fun I L B R => .int (I 8)) := ⟨kin_5 ht 0 (by decide), fun _ _ _ _ => ⟨_, rfl, rfl⟩⟩
theorem fs_5_8 (ht : t < 5) : FdI (XC l D ad cid) 5 t 5 8 := ⟨kin_5 ht 0 (by decide), fun _ _ _ _ _ => ⟨_, rfl, Nat.le_of_ble_eq_true rfl, rfl⟩⟩
theorem fg_5_9 (ht : t < 5) : FdG (XC l D ad cid) 5 t 5 9 (fun I L B R => .ref (ad 5 t 6)) := ⟨kin_5 ht 0 (by decide), fun _ _ _ _ => ⟨_, rfl, rfl⟩⟩
theorem aa_5_6 : ∀ t, t < 5 → ((5, t, 6, .int) : Nat × Nat × Nat × FieldType) ∈ arrC := by decide +kernel
theorem ar_5_6 (ht : t < 5) : IsI (XC l D ad cid) 5 t 6 3 .int := ⟨kin_5 ht 6 (by decide), cid 5 t 6, List.mem_map.mpr ⟨(5, t, 6, .int), aa_5_6 t ht, rfl⟩, fun _ _ _ _ => rfl⟩
theorem ci_6 : CI 6 RX6 TX6 14 tyX6 := ⟨rfl, fun w hw => of_decide_eq_true (List.all_eq_true.mp (by decide +kernel : (u_ws RX6 TX6 14).all (fun w => decide (w ∈ Gw)) = true) w hw), tyX6_ok, nmX6⟩
theorem kk_6 : ∀ t, t < 3 → ∀ c, c < 1 → (6, t, c) ∈ keysC := by decide +kernel
theorem kin_6 (ht : t < 3) (c : Nat) (hc : c < 1) : Kin (XC l D ad cid) 6 t c := ⟨kk_6 t ht c hc, nodupC⟩
theorem io_6 (ht : t < 3) : IsO (XC l D ad cid) 6 t 6 := ⟨kin_6 ht 0 (by decide), fun _ _ _ _ => ⟨_, rfl⟩⟩
theorem fg_6_0 (ht : t < 3) : FdG (XC l D ad cid) 6 t 6 0 (fun I L B R => .int (I 0)) := ⟨kin_6 ht 0 (by decide), fun _ _ _ _ => ⟨_, rfl, rfl⟩⟩
theorem fs_6_0 (ht : t < 3) : FdI (XC l D ad cid) 6 t 6 0 := ⟨kin_6 ht 0 (by decide), fun _ _ _ _ _ => ⟨_, rfl, Nat.le_of_ble_eq_true rfl, rfl⟩⟩
theorem fg_6_1 (ht : t < 3) : FdG (XC l D ad cid) 6 t 6 1 (fun I L B R => .int (I 1)) := ⟨kin_6 ht 0 (by decide), fun _ _ _ _ => ⟨_, rfl, rfl⟩⟩
theorem fs_6_1 (ht : t < 3) : FdI (XC l D ad cid) 6 t 6 1 := ⟨kin_6 ht 0 (by decide), fun _ _ _ _ _ => ⟨_, rfl, Nat.le_of_ble_eq_true rfl, rfl⟩⟩
theorem fg_6_2 (ht : t < 3) : FdG (XC l D ad cid) 6 t 6 2 (fun I L B R => .int (I 2)) := ⟨kin_6 ht 0 (by decide), fun _ _ _ _ => ⟨_, rfl, rfl⟩⟩
theorem fs_6_2 (ht : t < 3) : FdI (XC l D ad cid) 6 t 6 2 := ⟨kin_6 ht 0 (by decide), fun _ _ _ _ _ => ⟨_, rfl, Nat.le_of_ble_eq_true rfl, rfl⟩⟩
theorem fg_6_3 (ht : t < 3) : FdG (XC l D ad cid) 6 t 6 3 (fun I L B R => .int (I 3)) := ⟨kin_6 ht 0 (by decide), fun _ _ _ _ => ⟨_, rfl, rfl⟩⟩
theorem fs_6_3 (ht : t < 3) : FdI (XC l D ad cid) 6 t 6 3 := ⟨kin_6 ht 0 (by decide), fun _ _ _ _ _ => ⟨_, rfl, Nat.le_of_ble_eq_true rfl, rfl⟩⟩
theorem fg_6_4 (ht : t < 3) : FdG (XC l D ad cid) 6 t 6 4 (fun I L B R => .int (I 4)) := ⟨kin_6 ht 0 (by decide), fun _ _ _ _ => ⟨_, rfl, rfl⟩⟩
theorem fs_6_4 (ht : t < 3) : FdI (XC l D ad cid) 6 t 6 4 := ⟨kin_6 ht 0 (by decide), fun _ _ _ _ _ => ⟨_, rfl, Nat.le_of_ble_eq_true rfl, rfl⟩⟩
theorem fg_6_5 (ht : t < 3) : FdG (XC l D ad cid) 6 t 6 5 (fun I L B R => .int (I 5)) := ⟨kin_6 ht 0 (by decide), fun _ _ _ _ => ⟨_, rfl, rfl⟩⟩
theorem fs_6_5 (ht : t < 3) : FdI (XC l D ad cid) 6 t 6 5 := ⟨kin_6 ht 0 (by decide), fun _ _ _ _ _ => ⟨_, rfl, Nat.le_of_ble_eq_true rfl, rfl⟩⟩
theorem fg_6_6 (ht : t < 3) : FdG (XC l D ad cid) 6 t 6 6 (fun I L B R => .int (I 6)) := ⟨kin_6 ht 0 (by decide), fun _ _ _ _ => ⟨_, rfl, rfl⟩⟩
theorem fs_6_6 (ht : t < 3) : FdI (XC l D ad cid) 6 t 6 6 := ⟨kin_6 ht 0 (by decide), fun _ _ _ _ _ => ⟨_, rfl, Nat.le_of_ble_eq_true rfl, rfl⟩⟩
theorem fg_6_7 (ht : t < 3) : FdG (XC l D ad cid) 6 t 6 7 (fun I L B R => .int (I 7)) := ⟨kin_6 ht 0 (by decide), fun _ _ _ _ => ⟨_, rfl, rfl⟩⟩
theorem fs_6_7 (ht : t < 3) : FdI (XC l D ad cid) 6 t 6 7 := ⟨kin_6 ht 0 (by decide), fun _ _ _ _ _ => ⟨_, rfl, Nat.le_of_ble_eq_true rfl, rfl⟩⟩
theorem fg_6_8 (ht : t < 3) : FdG (XC l D ad cid) 6 t 6 8 (fun I L B R => .int (I 8)) := ⟨kin_6 ht 0 (by decide), fun _ _ _ _ => ⟨_, rfl, rfl⟩⟩
theorem fs_6_8 (ht : t < 3) : FdI (XC l D ad cid) 6 t 6 8 := ⟨kin_6 ht 0 (by decide), fun _ _ _ _ _ => ⟨_, rfl, Nat.le_of_ble_eq_true rfl, rfl⟩⟩
theorem fg_6_9 (ht : t < 3) : FdG (XC l D ad cid) 6 t 6 9 (fun I L B R => .int (I 9)) := ⟨kin_6 ht 0 (by decide), fun _ _ _ _ => ⟨_, rfl, rfl⟩⟩
theorem fs_6_9 (ht : t < 3) : FdI (XC l D ad cid) 6 t 6 9 := ⟨kin_6 ht 0 (by decide), fun _ _ _ _ _ => ⟨_, rfl, Nat.le_of_ble_eq_true rfl, rfl⟩⟩
theorem fg_6_10 (ht : t < 3) : FdG (XC l D ad cid) 6 t 6 10 (fun I L B R => .int (I 10)) := ⟨kin_6 ht 0 (by decide), fun _ _ _ _ => ⟨_, rfl, rfl⟩⟩
theorem fs_6_10 (ht : t < 3) : FdI (XC l D ad cid) 6 t 6 10 := ⟨kin_6 ht 0 (by decide), fun _ _ _ _ _ => ⟨_, rfl, Nat.le_of_ble_eq_true rfl, rfl⟩⟩
theorem fg_6_11 (ht : t < 3) : FdG (XC l D ad cid) 6 t 6 11 (fun I L B R => .int (I 11)) := ⟨kin_6 ht 0 (by decide), fun _ _ _ _ => ⟨_, rfl, rfl⟩⟩
theorem fs_6_11 (ht : t < 3) : FdI (XC l D ad cid) 6 t 6 11 := ⟨kin_6 ht 0 (by decide), fun _ _ _ _ _ => ⟨_, rfl, Nat.le_of_ble_eq_true rfl, rfl⟩⟩
theorem fg_6_12 (ht : t < 3) : FdG (XC l D ad cid) 6 t 6 12 (fun I L B R => .int (I 12)) := ⟨kin_6 ht 0 (by decide), fun _ _ _ _ => ⟨_, rfl, rfl⟩⟩
theorem fs_6_12 (ht : t < 3) : FdI (XC l D ad cid) 6 t 6 12 := ⟨kin_6 ht 0 (by decide), fun _ _ _ _ _ => ⟨_, rfl, Nat.le_of_ble_eq_true rfl, rfl⟩⟩
theorem fg_6_13 (ht : t < 3) : FdG (XC l D ad cid) 6 t 6 13 (fun I L B R => .int (I 13)) := ⟨kin_6 ht 0 (by decide), fun _ _ _ _ => ⟨_, rfl, rfl⟩⟩
theorem fs_6_13 (ht : t < 3) : FdI (XC l D ad cid) 6 t 6 13 := ⟨kin_6 ht 0 (by decide), fun _ _ _ _ _ => ⟨_, rfl, Nat.le_of_ble_eq_true rfl, rfl⟩⟩
theorem ci_7 : CI 7 RX7 TX7 11 tyX7 := ⟨rfl, fun w hw => of_decide_eq_true (List.all_eq_true.mp (by decide +kernel : (u_ws RX7 TX7 11).all (fun w => decide (w ∈ Gw)) = true) w hw), tyX7_ok, nmX7⟩
theorem kk_7 : ∀ t, t < 5 → ∀ c, c < 6 → (7, t, c) ∈ keysC := by decide +kernel
theorem kin_7 (ht : t < 5) (c : Nat) (hc : c < 6) : Kin (XC l D ad cid) 7 t c := ⟨kk_7 t ht c hc, nodupC⟩
theorem io_7 (ht : t < 5) : IsO (XC l D ad cid) 7 t 7 := ⟨kin_7 ht 0 (by decide), fun _ _ _ _ => ⟨_, rfl⟩⟩
theorem fg_7_0 (ht : t < 5) : FdG (XC l D ad cid) 7 t 7 0 (fun I L B R => .int (I 0)) := ⟨kin_7 ht 0 (by decide), fun _ _ _ _ => ⟨_, rfl, rfl⟩⟩
theorem fs_7_0 (ht : t < 5) : FdI (XC l D ad cid) 7 t 7 0 := ⟨kin_7 ht 0 (by decide), fun _ _ _ _ _ => ⟨_, rfl, Nat.le_of_ble_eq_true rfl, rfl⟩⟩
theorem fg_7_1 (ht : t < 5) : FdG (XC l D ad cid) 7 t 7 1 (fun I L B R => .int (I 1)) := ⟨kin_7 ht 0 (by decide), fun _ _ _ _ => ⟨_, rfl, rfl⟩⟩
theorem fs_7_1 (ht : t < 5) : FdI (XC l D ad cid) 7 t 7 1 := ⟨kin_7 ht 0 (by decide), fun _ _ _ _ _ => ⟨_, rfl, Nat.le_of_ble_eq_true rfl, rfl⟩⟩
theorem fg_7_2 (ht : t < 5) : FdG (XC l D ad cid) 7 t 7 2 (fun I L B R => .ref (ad 7 t 1)) := ⟨kin_7 ht 0 (by decide), fun _ _ _ _ => ⟨_, rfl, rfl⟩⟩
theorem aa_7_1 : ∀ t, t < 5 → ((7, t, 1, .int) : Nat × Nat × Nat × FieldType) ∈ arrC := by decide +kernel
theorem ar_7_1 (ht : t < 5) : IsI (XC l D ad cid) 7 t 1 60 .int := ⟨kin_7 ht 1 (by decide), cid 7 t 1, List.mem_map.mpr ⟨(7, t, 1, .int), aa_7_1 t ht, rfl⟩, fun _ _ _ _ => rfl⟩
theorem fg_7_3 (ht : t < 5) : FdG (XC l D ad cid) 7 t 7 3 (fun I L B R => .ref (ad 7 t 2)) := ⟨kin_7 ht 0 (by decide), fun _ _ _ _ => ⟨_, rfl, rfl⟩⟩
theorem aa_7_2 : ∀ t, t < 5 → ((7, t, 2, .int) : Nat × Nat × Nat × FieldType) ∈ arrC := by decide +kernel
theorem ar_7_2 (ht : t < 5) : IsI (XC l D ad cid) 7 t 2 60 .int := ⟨kin_7 ht 2 (by decide), cid 7 t 2, List.mem_map.mpr ⟨(7, t, 2, .int), aa_7_2 t ht, rfl⟩, fun _ _ _ _ => rfl⟩
theorem fg_7_4 (ht : t < 5) : FdG (XC l D ad cid) 7 t 7 4 (fun I L B R => .ref (ad 7 t 3)) := ⟨kin_7 ht 0 (by decide), fun _ _ _ _ => ⟨_, rfl, rfl⟩⟩
theorem aa_7_3 : ∀ t, t < 5 → ((7, t, 3, .int) : Nat × Nat × Nat × FieldType) ∈ arrC := by decide +kernel
theorem ar_7_3 (ht : t < 5) : IsI (XC l D ad cid) 7 t 3 60 .int := ⟨kin_7 ht 3 (by decide), cid 7 t 3, List.mem_map.mpr ⟨(7, t, 3, .int), aa_7_3 t ht, rfl⟩, fun _ _ _ _ => rfl⟩
theorem fg_7_5 (ht : t < 5) : FdG (XC l D ad cid) 7 t 7 5 (fun I L B R => .ref (ad 7 t 4)) := ⟨kin_7 ht 0 (by decide), fun _ _ _ _ => ⟨_, rfl, rfl⟩⟩
theorem aa_7_4 : ∀ t, t < 5 → ((7, t, 4, .int) : Nat × Nat × Nat × FieldType) ∈ arrC := by decide +kernel
theorem ar_7_4 (ht : t < 5) : IsI (XC l D ad cid) 7 t 4 60 .int := ⟨kin_7 ht 4 (by decide), cid 7 t 4, List.mem_map.mpr ⟨(7, t, 4, .int), aa_7_4 t ht, rfl⟩, fun _ _ _ _ => rfl⟩
theorem fg_7_6 (ht : t < 5) : FdG (XC l D ad cid) 7 t 7 6 (fun I L B R => .ref (ad 7 t 5)) := ⟨kin_7 ht 0 (by decide), fun _ _ _ _ => ⟨_, rfl, rfl⟩⟩
theorem aa_7_5 : ∀ t, t < 5 → ((7, t, 5, .int) : Nat × Nat × Nat × FieldType) ∈ arrC := by decide +kernel
theorem ar_7_5 (ht : t < 5) : IsI (XC l D ad cid) 7 t 5 6 .int := ⟨kin_7 ht 5 (by decide), cid 7 t 5, List.mem_map.mpr ⟨(7, t, 5, .int), aa_7_5 t ht, rfl⟩, fun _ _ _ _ => rfl⟩
theorem fg_7_7 (ht : t < 5) : FdG (XC l D ad cid) 7 t 7 7 (fun I L B R => .int (I 7)) := ⟨kin_7 ht 0 (by decide), fun _ _ _ _ => ⟨_, rfl, rfl⟩⟩
theorem fs_7_7 (ht : t < 5) : FdI (XC l D ad cid) 7 t 7 7 := ⟨kin_7 ht 0 (by decide), fun _ _ _ _ _ => ⟨_, rfl, Nat.le_of_ble_eq_true rfl, rfl⟩⟩
theorem fg_7_8 (ht : t < 5) : FdG (XC l D ad cid) 7 t 7 8 (fun I L B R => .long (L 8)) := ⟨kin_7 ht 0 (by decide), fun _ _ _ _ => ⟨_, rfl, rfl⟩⟩
theorem fs_7_8 (ht : t < 5) : FdL (XC l D ad cid) 7 t 7 8 := ⟨kin_7 ht 0 (by decide), fun _ _ _ _ _ => ⟨_, rfl, Nat.le_of_ble_eq_true rfl, rfl⟩⟩
theorem fg_7_9 (ht : t < 5) : FdG (XC l D ad cid) 7 t 7 9 (fun I L B R => .long (L 9)) := ⟨kin_7 ht 0 (by decide), fun _ _ _ _ => ⟨_, rfl, rfl⟩⟩
theorem fs_7_9 (ht : t < 5) : FdL (XC l D ad cid) 7 t 7 9 := ⟨kin_7 ht 0 (by decide), fun _ _ _ _ _ => ⟨_, rfl, Nat.le_of_ble_eq_true rfl, rfl⟩⟩
theorem fg_7_10 (ht : t < 5) : FdG (XC l D ad cid) 7 t 7 10 (fun I L B R => .long (L 10)) := ⟨kin_7 ht 0 (by decide), fun _ _ _ _ => ⟨_, rfl, rfl⟩⟩
theorem fs_7_10 (ht : t < 5) : FdL (XC l D ad cid) 7 t 7 10 := ⟨kin_7 ht 0 (by decide), fun _ _ _ _ _ => ⟨_, rfl, Nat.le_of_ble_eq_true rfl, rfl⟩⟩
theorem ci_8 : CI 8 RX8 TX8 14 tyX8 := ⟨rfl, fun w hw => of_decide_eq_true (List.all_eq_true.mp (by decide +kernel : (u_ws RX8 TX8 14).all (fun w => decide (w ∈ Gw)) = true) w hw), tyX8_ok, nmX8⟩
theorem kk_8 : ∀ t, t < 1 → ∀ c, c < 3 → (8, t, c) ∈ keysC := by decide +kernel
theorem kin_8 (ht : t < 1) (c : Nat) (hc : c < 3) : Kin (XC l D ad cid) 8 t c := ⟨kk_8 t ht c hc, nodupC⟩
theorem io_8 (ht : t < 1) : IsO (XC l D ad cid) 8 t 8 := ⟨kin_8 ht 0 (by decide), fun _ _ _ _ => ⟨_, rfl⟩⟩
theorem fg_8_0 (ht : t < 1) : FdG (XC l D ad cid) 8 t 8 0 (fun I L B R => .ref (ad 8 t 1)) := ⟨kin_8 ht 0 (by decide), fun _ _ _ _ => ⟨_, rfl, rfl⟩⟩
theorem aa_8_1 : ∀ t, t < 1 → ((8, t, 1, .byte) : Nat × Nat × Nat × FieldType) ∈ arrC := by decide +kernel
theorem ar_8_1 (ht : t < 1) : IsI (XC l D ad cid) 8 t 1 900 .byte := ⟨kin_8 ht 1 (by decide), cid 8 t 1, List.mem_map.mpr ⟨(8, t, 1, .byte), aa_8_1 t ht, rfl⟩, fun _ _ _ _ => rfl⟩
theorem fg_8_1 (ht : t < 1) : FdG (XC l D ad cid) 8 t 8 1 (fun I L B R => .int (I 1)) := ⟨kin_8 ht 0 (by decide), fun _ _ _ _ => ⟨_, rfl, rfl⟩⟩
theorem fs_8_1 (ht : t < 1) : FdI (XC l D ad cid) 8 t 8 1 := ⟨kin_8 ht 0 (by decide), fun _ _ _ _ _ => ⟨_, rfl, Nat.le_of_ble_eq_true rfl, rfl⟩⟩
theorem fg_8_2 (ht : t < 1) : FdG (XC l D ad cid) 8 t 8 2 (fun I L B R => .int (I 2)) := ⟨kin_8 ht 0 (by decide), fun _ _ _ _ => ⟨_, rfl, rfl⟩⟩
theorem fs_8_2 (ht : t < 1) : FdI (XC l D ad cid) 8 t 8 2 := ⟨kin_8 ht 0 (by decide), fun _ _ _ _ _ => ⟨_, rfl, Nat.le_of_ble_eq_true rfl, rfl⟩⟩
theorem fg_8_3 (ht : t < 1) : FdG (XC l D ad cid) 8 t 8 3 (fun I L B R => .int (I 3)) := ⟨kin_8 ht 0 (by decide), fun _ _ _ _ => ⟨_, rfl, rfl⟩⟩
theorem fs_8_3 (ht : t < 1) : FdI (XC l D ad cid) 8 t 8 3 := ⟨kin_8 ht 0 (by decide), fun _ _ _ _ _ => ⟨_, rfl, Nat.le_of_ble_eq_true rfl, rfl⟩⟩
theorem fg_8_4 (ht : t < 1) : FdG (XC l D ad cid) 8 t 8 4 (fun I L B R => .int (I 4)) := ⟨kin_8 ht 0 (by decide), fun _ _ _ _ => ⟨_, rfl, rfl⟩⟩
theorem fs_8_4 (ht : t < 1) : FdI (XC l D ad cid) 8 t 8 4 := ⟨kin_8 ht 0 (by decide), fun _ _ _ _ _ => ⟨_, rfl, Nat.le_of_ble_eq_true rfl, rfl⟩⟩
theorem fg_8_5 (ht : t < 1) : FdG (XC l D ad cid) 8 t 8 5 (fun I L B R => .int (I 5)) := ⟨kin_8 ht 0 (by decide), fun _ _ _ _ => ⟨_, rfl, rfl⟩⟩
theorem fs_8_5 (ht : t < 1) : FdI (XC l D ad cid) 8 t 8 5 := ⟨kin_8 ht 0 (by decide), fun _ _ _ _ _ => ⟨_, rfl, Nat.le_of_ble_eq_true rfl, rfl⟩⟩
theorem fg_8_6 (ht : t < 1) : FdG (XC l D ad cid) 8 t 8 6 (fun I L B R => .long (L 6)) := ⟨kin_8 ht 0 (by decide), fun _ _ _ _ => ⟨_, rfl, rfl⟩⟩
theorem fs_8_6 (ht : t < 1) : FdL (XC l D ad cid) 8 t 8 6 := ⟨kin_8 ht 0 (by decide), fun _ _ _ _ _ => ⟨_, rfl, Nat.le_of_ble_eq_true rfl, rfl⟩⟩
theorem fg_8_7 (ht : t < 1) : FdG (XC l D ad cid) 8 t 8 7 (fun I L B R => .int (I 7)) := ⟨kin_8 ht 0 (by decide), fun _ _ _ _ => ⟨_, rfl, rfl⟩⟩
theorem fs_8_7 (ht : t < 1) : FdI (XC l D ad cid) 8 t 8 7 := ⟨kin_8 ht 0 (by decide), fun _ _ _ _ _ => ⟨_, rfl, Nat.le_of_ble_eq_true rfl, rfl⟩⟩
theorem fg_8_8 (ht : t < 1) : FdG (XC l D ad cid) 8 t 8 8 (fun I L B R => .int (I 8)) := ⟨kin_8 ht 0 (by decide), fun _ _ _ _ => ⟨_, rfl, rfl⟩⟩
theorem fs_8_8 (ht : t < 1) : FdI (XC l D ad cid) 8 t 8 8 := ⟨kin_8 ht 0 (by decide), fun _ _ _ _ _ => ⟨_, rfl, Nat.le_of_ble_eq_true rfl, rfl⟩⟩
theorem fg_8_9 (ht : t < 1) : FdG (XC l D ad cid) 8 t 8 9 (fun I L B R => .int (I 9)) := ⟨kin_8 ht 0 (by decide), fun _ _ _ _ => ⟨_, rfl, rfl⟩⟩
theorem fs_8_9 (ht : t < 1) : FdI (XC l D ad cid) 8 t 8 9 := ⟨kin_8 ht 0 (by decide), fun _ _ _ _ _ => ⟨_, rfl, Nat.le_of_ble_eq_true rfl, rfl⟩⟩
theorem fg_8_10 (ht : t < 1) : FdG (XC l D ad cid) 8 t 8 10 (fun I L B R => .int (I 10)) := ⟨kin_8 ht 0 (by decide), fun _ _ _ _ => ⟨_, rfl, rfl⟩⟩
theorem fs_8_10 (ht : t < 1) : FdI (XC l D ad cid) 8 t 8 10 := ⟨kin_8 ht 0 (by decide), fun _ _ _ _ _ => ⟨_, rfl, Nat.le_of_ble_eq_true rfl, rfl⟩⟩
theorem fg_8_11 (ht : t < 1) : FdG (XC l D ad cid) 8 t 8 11 (fun I L B R => .int (I 11)) := ⟨kin_8 ht 0 (by decide), fun _ _ _ _ => ⟨_, rfl, rfl⟩⟩
theorem fs_8_11 (ht : t < 1) : FdI (XC l D ad cid) 8 t 8 11 := ⟨kin_8 ht 0 (by decide), fun _ _ _ _ _ => ⟨_, rfl, Nat.le_of_ble_eq_true rfl, rfl⟩⟩
theorem fg_8_12 (ht : t < 1) : FdG (XC l D ad cid) 8 t 8 12 (fun I L B R => .int (I 12)) := ⟨kin_8 ht 0 (by decide), fun _ _ _ _ => ⟨_, rfl, rfl⟩⟩
theorem fs_8_12 (ht : t < 1) : FdI (XC l D ad cid) 8 t 8 12 := ⟨kin_8 ht 0 (by decide), fun _ _ _ _ _ => ⟨_, rfl, Nat.le_of_ble_eq_true rfl, rfl⟩⟩
theorem fg_8_13 (ht : t < 1) : FdG (XC l D ad cid) 8 t 8 13 (fun I L B R => .ref (ad 8 t 2)) := ⟨kin_8 ht 0 (by decide), fun _ _ _ _ => ⟨_, rfl, rfl⟩⟩
theorem aa_8_2 : ∀ t, t < 1 → ((8, t, 2, .long) : Nat × Nat × Nat × FieldType) ∈ arrC := by decide +kernel
theorem ar_8_2 (ht : t < 1) : IsL (XC l D ad cid) 8 t 2 30 := ⟨kin_8 ht 2 (by decide), cid 8 t 2, List.mem_map.mpr ⟨(8, t, 2, .long), aa_8_2 t ht, rfl⟩, fun _ _ _ _ => rfl⟩
theorem ci_9 : CI 9 RX9 TX9 20 tyX9 := ⟨rfl, fun w hw => of_decide_eq_true (List.all_eq_true.mp (by decide +kernel : (u_ws RX9 TX9 20).all (fun w => decide (w ∈ Gw)) = true) w hw), tyX9_ok, nmX9⟩
theorem kk_9 : ∀ t, t < 5 → ∀ c, c < 13 → (9, t, c) ∈ keysC := by decide +kernel
theorem kin_9 (ht : t < 5) (c : Nat) (hc : c < 13) : Kin (XC l D ad cid) 9 t c := ⟨kk_9 t ht c hc, nodupC⟩
theorem io_9 (ht : t < 5) : IsO (XC l D ad cid) 9 t 9 := ⟨kin_9 ht 0 (by decide), fun _ _ _ _ => ⟨_, rfl⟩⟩
theorem fg_9_0 (ht : t < 5) : FdG (XC l D ad cid) 9 t 9 0 (fun I L B R => .int (I 0)) := ⟨kin_9 ht 0 (by decide), fun _ _ _ _ => ⟨_, rfl, rfl⟩⟩
theorem fs_9_0 (ht : t < 5) : FdI (XC l D ad cid) 9 t 9 0 := ⟨kin_9 ht 0 (by decide), fun _ _ _ _ _ => ⟨_, rfl, Nat.le_of_ble_eq_true rfl, rfl⟩⟩
theorem fg_9_1 (ht : t < 5) : FdG (XC l D ad cid) 9 t 9 1 (fun I L B R => .int (I 1)) := ⟨kin_9 ht 0 (by decide), fun _ _ _ _ => ⟨_, rfl, rfl⟩⟩
theorem fs_9_1 (ht : t < 5) : FdI (XC l D ad cid) 9 t 9 1 := ⟨kin_9 ht 0 (by decide), fun _ _ _ _ _ => ⟨_, rfl, Nat.le_of_ble_eq_true rfl, rfl⟩⟩
theorem fg_9_2 (ht : t < 5) : FdG (XC l D ad cid) 9 t 9 2 (fun I L B R => .int (I 2)) := ⟨kin_9 ht 0 (by decide), fun _ _ _ _ => ⟨_, rfl, rfl⟩⟩
theorem fs_9_2 (ht : t < 5) : FdI (XC l D ad cid) 9 t 9 2 := ⟨kin_9 ht 0 (by decide), fun _ _ _ _ _ => ⟨_, rfl, Nat.le_of_ble_eq_true rfl, rfl⟩⟩
theorem fg_9_3 (ht : t < 5) : FdG (XC l D ad cid) 9 t 9 3 (fun I L B R => .int (I 3)) := ⟨kin_9 ht 0 (by decide), fun _ _ _ _ => ⟨_, rfl, rfl⟩⟩
theorem fs_9_3 (ht : t < 5) : FdI (XC l D ad cid) 9 t 9 3 := ⟨kin_9 ht 0 (by decide), fun _ _ _ _ _ => ⟨_, rfl, Nat.le_of_ble_eq_true rfl, rfl⟩⟩
theorem fg_9_4 (ht : t < 5) : FdG (XC l D ad cid) 9 t 9 4 (fun I L B R => .int (I 4)) := ⟨kin_9 ht 0 (by decide), fun _ _ _ _ => ⟨_, rfl, rfl⟩⟩
theorem fs_9_4 (ht : t < 5) : FdI (XC l D ad cid) 9 t 9 4 := ⟨kin_9 ht 0 (by decide), fun _ _ _ _ _ => ⟨_, rfl, Nat.le_of_ble_eq_true rfl, rfl⟩⟩
theorem fg_9_5 (ht : t < 5) : FdG (XC l D ad cid) 9 t 9 5 (fun I L B R => .ref (ad 9 t 1)) := ⟨kin_9 ht 0 (by decide), fun _ _ _ _ => ⟨_, rfl, rfl⟩⟩
theorem aa_9_1 : ∀ t, t < 5 → ((9, t, 1, .int) : Nat × Nat × Nat × FieldType) ∈ arrC := by decide +kernel
theorem ar_9_1 (ht : t < 5) : IsI (XC l D ad cid) 9 t 1 6 .int := ⟨kin_9 ht 1 (by decide), cid 9 t 1, List.mem_map.mpr ⟨(9, t, 1, .int), aa_9_1 t ht, rfl⟩, fun _ _ _ _ => rfl⟩
theorem fg_9_6 (ht : t < 5) : FdG (XC l D ad cid) 9 t 9 6 (fun I L B R => .ref (ad 9 t 2)) := ⟨kin_9 ht 0 (by decide), fun _ _ _ _ => ⟨_, rfl, rfl⟩⟩
theorem aa_9_2 : ∀ t, t < 5 → ((9, t, 2, .int) : Nat × Nat × Nat × FieldType) ∈ arrC := by decide +kernel
theorem ar_9_2 (ht : t < 5) : IsI (XC l D ad cid) 9 t 2 6 .int := ⟨kin_9 ht 2 (by decide), cid 9 t 2, List.mem_map.mpr ⟨(9, t, 2, .int), aa_9_2 t ht, rfl⟩, fun _ _ _ _ => rfl⟩
theorem fg_9_7 (ht : t < 5) : FdG (XC l D ad cid) 9 t 9 7 (fun I L B R => .int (I 7)) := ⟨kin_9 ht 0 (by decide), fun _ _ _ _ => ⟨_, rfl, rfl⟩⟩
theorem fs_9_7 (ht : t < 5) : FdI (XC l D ad cid) 9 t 9 7 := ⟨kin_9 ht 0 (by decide), fun _ _ _ _ _ => ⟨_, rfl, Nat.le_of_ble_eq_true rfl, rfl⟩⟩
theorem fg_9_8 (ht : t < 5) : FdG (XC l D ad cid) 9 t 9 8 (fun I L B R => .ref (ad 9 t 3)) := ⟨kin_9 ht 0 (by decide), fun _ _ _ _ => ⟨_, rfl, rfl⟩⟩
theorem aa_9_3 : ∀ t, t < 5 → ((9, t, 3, .long) : Nat × Nat × Nat × FieldType) ∈ arrC := by decide +kernel
theorem ar_9_3 (ht : t < 5) : IsL (XC l D ad cid) 9 t 3 8 := ⟨kin_9 ht 3 (by decide), cid 9 t 3, List.mem_map.mpr ⟨(9, t, 3, .long), aa_9_3 t ht, rfl⟩, fun _ _ _ _ => rfl⟩
theorem fg_9_9 (ht : t < 5) : FdG (XC l D ad cid) 9 t 9 9 (fun I L B R => .ref (ad 9 t 4)) := ⟨kin_9 ht 0 (by decide), fun _ _ _ _ => ⟨_, rfl, rfl⟩⟩
theorem aa_9_4 : ∀ t, t < 5 → ((9, t, 4, .int) : Nat × Nat × Nat × FieldType) ∈ arrC := by decide +kernel
theorem ar_9_4 (ht : t < 5) : IsI (XC l D ad cid) 9 t 4 8 .int := ⟨kin_9 ht 4 (by decide), cid 9 t 4, List.mem_map.mpr ⟨(9, t, 4, .int), aa_9_4 t ht, rfl⟩, fun _ _ _ _ => rfl⟩
theorem fg_9_10 (ht : t < 5) : FdG (XC l D ad cid) 9 t 9 10 (fun I L B R => .ref (ad 9 t 5)) := ⟨kin_9 ht 0 (by decide), fun _ _ _ _ => ⟨_, rfl, rfl⟩⟩
theorem aa_9_5 : ∀ t, t < 5 → ((9, t, 5, .int) : Nat × Nat × Nat × FieldType) ∈ arrC := by decide +kernel
theorem ar_9_5 (ht : t < 5) : IsI (XC l D ad cid) 9 t 5 8 .int := ⟨kin_9 ht 5 (by decide), cid 9 t 5, List.mem_map.mpr ⟨(9, t, 5, .int), aa_9_5 t ht, rfl⟩, fun _ _ _ _ => rfl⟩
theorem fg_9_11 (ht : t < 5) : FdG (XC l D ad cid) 9 t 9 11 (fun I L B R => .ref (ad 9 t 6)) := ⟨kin_9 ht 0 (by decide), fun _ _ _ _ => ⟨_, rfl, rfl⟩⟩
theorem aa_9_6 : ∀ t, t < 5 → ((9, t, 6, .int) : Nat × Nat × Nat × FieldType) ∈ arrC := by decide +kernel
theorem ar_9_6 (ht : t < 5) : IsI (XC l D ad cid) 9 t 6 8 .int := ⟨kin_9 ht 6 (by decide), cid 9 t 6, List.mem_map.mpr ⟨(9, t, 6, .int), aa_9_6 t ht, rfl⟩, fun _ _ _ _ => rfl⟩
theorem fg_9_12 (ht : t < 5) : FdG (XC l D ad cid) 9 t 9 12 (fun I L B R => .ref (ad 9 t 7)) := ⟨kin_9 ht 0 (by decide), fun _ _ _ _ => ⟨_, rfl, rfl⟩⟩
theorem aa_9_7 : ∀ t, t < 5 → ((9, t, 7, .int) : Nat × Nat × Nat × FieldType) ∈ arrC := by decide +kernel
theorem ar_9_7 (ht : t < 5) : IsI (XC l D ad cid) 9 t 7 8 .int := ⟨kin_9 ht 7 (by decide), cid 9 t 7, List.mem_map.mpr ⟨(9, t, 7, .int), aa_9_7 t ht, rfl⟩, fun _ _ _ _ => rfl⟩
theorem fg_9_13 (ht : t < 5) : FdG (XC l D ad cid) 9 t 9 13 (fun I L B R => .int (I 13)) := ⟨kin_9 ht 0 (by decide), fun _ _ _ _ => ⟨_, rfl, rfl⟩⟩
theorem fs_9_13 (ht : t < 5) : FdI (XC l D ad cid) 9 t 9 13 := ⟨kin_9 ht 0 (by decide), fun _ _ _ _ _ => ⟨_, rfl, Nat.le_of_ble_eq_true rfl, rfl⟩⟩
theorem fg_9_14 (ht : t < 5) : FdG (XC l D ad cid) 9 t 9 14 (fun I L B R => .ref (ad 9 t 8)) := ⟨kin_9 ht 0 (by decide), fun _ _ _ _ => ⟨_, rfl, rfl⟩⟩
theorem aa_9_8 : ∀ t, t < 5 → ((9, t, 8, .long) : Nat × Nat × Nat × FieldType) ∈ arrC := by decide +kernel
theorem ar_9_8 (ht : t < 5) : IsL (XC l D ad cid) 9 t 8 6 := ⟨kin_9 ht 8 (by decide), cid 9 t 8, List.mem_map.mpr ⟨(9, t, 8, .long), aa_9_8 t ht, rfl⟩, fun _ _ _ _ => rfl⟩
theorem fg_9_15 (ht : t < 5) : FdG (XC l D ad cid) 9 t 9 15 (fun I L B R => .ref (ad 9 t 9)) := ⟨kin_9 ht 0 (by decide), fun _ _ _ _ => ⟨_, rfl, rfl⟩⟩
theorem aa_9_9 : ∀ t, t < 5 → ((9, t, 9, .int) : Nat × Nat × Nat × FieldType) ∈ arrC := by decide +kernel
theorem ar_9_9 (ht : t < 5) : IsI (XC l D ad cid) 9 t 9 6 .int := ⟨kin_9 ht 9 (by decide), cid 9 t 9, List.mem_map.mpr ⟨(9, t, 9, .int), aa_9_9 t ht, rfl⟩, fun _ _ _ _ => rfl⟩
theorem fg_9_16 (ht : t < 5) : FdG (XC l D ad cid) 9 t 9 16 (fun I L B R => .ref (ad 9 t 10)) := ⟨kin_9 ht 0 (by decide), fun _ _ _ _ => ⟨_, rfl, rfl⟩⟩
theorem aa_9_10 : ∀ t, t < 5 → ((9, t, 10, .int) : Nat × Nat × Nat × FieldType) ∈ arrC := by decide +kernel
theorem ar_9_10 (ht : t < 5) : IsI (XC l D ad cid) 9 t 10 6 .int := ⟨kin_9 ht 10 (by decide), cid 9 t 10, List.mem_map.mpr ⟨(9, t, 10, .int), aa_9_10 t ht, rfl⟩, fun _ _ _ _ => rfl⟩
theorem fg_9_17 (ht : t < 5) : FdG (XC l D ad cid) 9 t 9 17 (fun I L B R => .ref (ad 9 t 11)) := ⟨kin_9 ht 0 (by decide), fun _ _ _ _ => ⟨_, rfl, rfl⟩⟩
theorem aa_9_11 : ∀ t, t < 5 → ((9, t, 11, .int) : Nat × Nat × Nat × FieldType) ∈ arrC := by decide +kernel
theorem ar_9_11 (ht : t < 5) : IsI (XC l D ad cid) 9 t 11 6 .int := ⟨kin_9 ht 11 (by decide), cid 9 t 11, List.mem_map.mpr ⟨(9, t, 11, .int), aa_9_11 t ht, rfl⟩, fun _ _ _ _ => rfl⟩
theorem fg_9_18 (ht : t < 5) : FdG (XC l D ad cid) 9 t 9 18 (fun I L B R => .ref (ad 9 t 12)) := ⟨kin_9 ht 0 (by decide), fun _ _ _ _ => ⟨_, rfl, rfl⟩⟩
theorem aa_9_12 : ∀ t, t < 5 → ((9, t, 12, .int) : Nat × Nat × Nat × FieldType) ∈ arrC := by decide +kernel
theorem ar_9_12 (ht : t < 5) : IsI (XC l D ad cid) 9 t 12 6 .int := ⟨kin_9 ht 12 (by decide), cid 9 t 12, List.mem_map.mpr ⟨(9, t, 12, .int), aa_9_12 t ht, rfl⟩, fun _ _ _ _ => rfl⟩
theorem fg_9_19 (ht : t < 5) : FdG (XC l D ad cid) 9 t 9 19 (fun I L B R => .int (I 19)) := ⟨kin_9 ht 0 (by decide), fun _ _ _ _ => ⟨_, rfl, rfl⟩⟩
theorem fs_9_19 (ht : t < 5) : FdI (XC l D ad cid) 9 t 9 19 := ⟨kin_9 ht 0 (by decide), fun _ _ _ _ _ => ⟨_, rfl, Nat.le_of_ble_eq_true rfl, rfl⟩⟩
theorem ci_10 : CI 10 RX10 TX10 4 tyX10 := ⟨rfl, fun w hw => of_decide_eq_true (List.all_eq_true.mp (by decide +kernel : (u_ws RX10 TX10 4).all (fun w => decide (w ∈ Gw)) = true) w hw), tyX10_ok, nmX10⟩
theorem kk_10 : ∀ t, t < 4 → ∀ c, c < 2 → (10, t, c) ∈ keysC := by decide +kernel
theorem kin_10 (ht : t < 4) (c : Nat) (hc : c < 2) : Kin (XC l D ad cid) 10 t c := ⟨kk_10 t ht c hc, nodupC⟩
theorem io_10 (ht : t < 4) : IsO (XC l D ad cid) 10 t 10 := ⟨kin_10 ht 0 (by decide), fun _ _ _ _ => ⟨_, rfl⟩⟩
theorem fg_10_0 (ht : t < 4) : FdG (XC l D ad cid) 10 t 10 0 (fun I L B R => .int (b2i (B 0))) := ⟨kin_10 ht 0 (by decide), fun _ _ _ _ => ⟨_, rfl, rfl⟩⟩
theorem fs_10_0 (ht : t < 4) : FdB (XC l D ad cid) 10 t 10 0 := ⟨kin_10 ht 0 (by decide), fun _ _ _ _ _ => ⟨_, rfl, Nat.le_of_ble_eq_true rfl, rfl⟩⟩
theorem fg_10_1 (ht : t < 4) : FdG (XC l D ad cid) 10 t 10 1 (fun I L B R => .int (I 1)) := ⟨kin_10 ht 0 (by decide), fun _ _ _ _ => ⟨_, rfl, rfl⟩⟩
theorem fs_10_1 (ht : t < 4) : FdI (XC l D ad cid) 10 t 10 1 := ⟨kin_10 ht 0 (by decide), fun _ _ _ _ _ => ⟨_, rfl, Nat.le_of_ble_eq_true rfl, rfl⟩⟩
theorem fg_10_2 (ht : t < 4) : FdG (XC l D ad cid) 10 t 10 2 (fun I L B R => .int (I 2)) := ⟨kin_10 ht 0 (by decide), fun _ _ _ _ => ⟨_, rfl, rfl⟩⟩
theorem fs_10_2 (ht : t < 4) : FdI (XC l D ad cid) 10 t 10 2 := ⟨kin_10 ht 0 (by decide), fun _ _ _ _ _ => ⟨_, rfl, Nat.le_of_ble_eq_true rfl, rfl⟩⟩
theorem fg_10_3 (ht : t < 4) : FdG (XC l D ad cid) 10 t 10 3 (fun I L B R => .ref (ad 10 t 1)) := ⟨kin_10 ht 0 (by decide), fun _ _ _ _ => ⟨_, rfl, rfl⟩⟩
theorem aa_10_1 : ∀ t, t < 4 → ((10, t, 1, .long) : Nat × Nat × Nat × FieldType) ∈ arrC := by decide +kernel
theorem ar_10_1 (ht : t < 4) : IsL (XC l D ad cid) 10 t 1 60 := ⟨kin_10 ht 1 (by decide), cid 10 t 1, List.mem_map.mpr ⟨(10, t, 1, .long), aa_10_1 t ht, rfl⟩, fun _ _ _ _ => rfl⟩
theorem ci_11 : CI 11 RX11 TX11 20 tyX11 := ⟨rfl, fun w hw => of_decide_eq_true (List.all_eq_true.mp (by decide +kernel : (u_ws RX11 TX11 20).all (fun w => decide (w ∈ Gw)) = true) w hw), tyX11_ok, nmX11⟩
theorem kk_11 : ∀ t, t < 1 → ∀ c, c < 4 → (11, t, c) ∈ keysC := by decide +kernel
theorem kin_11 (ht : t < 1) (c : Nat) (hc : c < 4) : Kin (XC l D ad cid) 11 t c := ⟨kk_11 t ht c hc, nodupC⟩
theorem io_11 (ht : t < 1) : IsO (XC l D ad cid) 11 t 11 := ⟨kin_11 ht 0 (by decide), fun _ _ _ _ => ⟨_, rfl⟩⟩
theorem fg_11_0 (ht : t < 1) : FdG (XC l D ad cid) 11 t 11 0 (fun I L B R => .int (I 0)) := ⟨kin_11 ht 0 (by decide), fun _ _ _ _ => ⟨_, rfl, rfl⟩⟩
theorem fs_11_0 (ht : t < 1) : FdI (XC l D ad cid) 11 t 11 0 := ⟨kin_11 ht 0 (by decide), fun _ _ _ _ _ => ⟨_, rfl, Nat.le_of_ble_eq_true rfl, rfl⟩⟩
theorem fg_11_1 (ht : t < 1) : FdG (XC l D ad cid) 11 t 11 1 (fun I L B R => .long (L 1)) := ⟨kin_11 ht 0 (by decide), fun _ _ _ _ => ⟨_, rfl, rfl⟩⟩
theorem fs_11_1 (ht : t < 1) : FdL (XC l D ad cid) 11 t 11 1 := ⟨kin_11 ht 0 (by decide), fun _ _ _ _ _ => ⟨_, rfl, Nat.le_of_ble_eq_true rfl, rfl⟩⟩
theorem fg_11_2 (ht : t < 1) : FdG (XC l D ad cid) 11 t 11 2 (fun I L B R => .long (L 2)) := ⟨kin_11 ht 0 (by decide), fun _ _ _ _ => ⟨_, rfl, rfl⟩⟩
theorem fs_11_2 (ht : t < 1) : FdL (XC l D ad cid) 11 t 11 2 := ⟨kin_11 ht 0 (by decide), fun _ _ _ _ _ => ⟨_, rfl, Nat.le_of_ble_eq_true rfl, rfl⟩⟩
theorem fg_11_3 (ht : t < 1) : FdG (XC l D ad cid) 11 t 11 3 (fun I L B R => .ref (ad 11 t 1)) := ⟨kin_11 ht 0 (by decide), fun _ _ _ _ => ⟨_, rfl, rfl⟩⟩
theorem aa_11_1 : ∀ t, t < 1 → ((11, t, 1, .object "PeaTube$Tray") : Nat × Nat × Nat × FieldType) ∈ arrC := by decide +kernel
theorem ar_11_1 (ht : t < 1) : IsQ (XC l D ad cid) 11 t 1 4 "PeaTube$Tray" (fun k => ad 10 k 0) := ⟨kin_11 ht 1 (by decide), cid 11 t 1, List.mem_map.mpr ⟨(11, t, 1, .object "PeaTube$Tray"), aa_11_1 t ht, rfl⟩, fun _ _ _ _ => rfl⟩
theorem fg_11_4 (ht : t < 1) : FdG (XC l D ad cid) 11 t 11 4 (fun I L B R => .ref (ad 8 0 0)) := ⟨kin_11 ht 0 (by decide), fun _ _ _ _ => ⟨_, rfl, rfl⟩⟩
theorem fg_11_5 (ht : t < 1) : FdG (XC l D ad cid) 11 t 11 5 (fun I L B R => .ref (ad 9 (R 5) 0)) := ⟨kin_11 ht 0 (by decide), fun _ _ _ _ => ⟨_, rfl, rfl⟩⟩
theorem fs_11_5 (ht : t < 1) : FdR (XC l D ad cid) 11 t 11 5 9 := ⟨kin_11 ht 0 (by decide), fun _ _ _ _ _ => ⟨_, rfl, Nat.le_of_ble_eq_true rfl, rfl⟩⟩
theorem fg_11_6 (ht : t < 1) : FdG (XC l D ad cid) 11 t 11 6 (fun I L B R => .ref (ad 9 (R 6) 0)) := ⟨kin_11 ht 0 (by decide), fun _ _ _ _ => ⟨_, rfl, rfl⟩⟩
theorem fs_11_6 (ht : t < 1) : FdR (XC l D ad cid) 11 t 11 6 9 := ⟨kin_11 ht 0 (by decide), fun _ _ _ _ _ => ⟨_, rfl, Nat.le_of_ble_eq_true rfl, rfl⟩⟩
theorem fg_11_7 (ht : t < 1) : FdG (XC l D ad cid) 11 t 11 7 (fun I L B R => .ref (ad 5 (R 7) 0)) := ⟨kin_11 ht 0 (by decide), fun _ _ _ _ => ⟨_, rfl, rfl⟩⟩
theorem fs_11_7 (ht : t < 1) : FdR (XC l D ad cid) 11 t 11 7 5 := ⟨kin_11 ht 0 (by decide), fun _ _ _ _ _ => ⟨_, rfl, Nat.le_of_ble_eq_true rfl, rfl⟩⟩
theorem fg_11_8 (ht : t < 1) : FdG (XC l D ad cid) 11 t 11 8 (fun I L B R => .ref (ad 5 (R 8) 0)) := ⟨kin_11 ht 0 (by decide), fun _ _ _ _ => ⟨_, rfl, rfl⟩⟩
theorem fs_11_8 (ht : t < 1) : FdR (XC l D ad cid) 11 t 11 8 5 := ⟨kin_11 ht 0 (by decide), fun _ _ _ _ _ => ⟨_, rfl, Nat.le_of_ble_eq_true rfl, rfl⟩⟩
theorem fg_11_9 (ht : t < 1) : FdG (XC l D ad cid) 11 t 11 9 (fun I L B R => .ref (ad 7 0 0)) := ⟨kin_11 ht 0 (by decide), fun _ _ _ _ => ⟨_, rfl, rfl⟩⟩
theorem fg_11_10 (ht : t < 1) : FdG (XC l D ad cid) 11 t 11 10 (fun I L B R => .ref (ad 7 1 0)) := ⟨kin_11 ht 0 (by decide), fun _ _ _ _ => ⟨_, rfl, rfl⟩⟩
theorem fg_11_11 (ht : t < 1) : FdG (XC l D ad cid) 11 t 11 11 (fun I L B R => .ref (ad 11 t 2)) := ⟨kin_11 ht 0 (by decide), fun _ _ _ _ => ⟨_, rfl, rfl⟩⟩
theorem aa_11_2 : ∀ t, t < 1 → ((11, t, 2, .object "PeaTube$Kept") : Nat × Nat × Nat × FieldType) ∈ arrC := by decide +kernel
theorem ar_11_2 (ht : t < 1) : IsQ (XC l D ad cid) 11 t 2 3 "PeaTube$Kept" (fun k => ad 3 k 0) := ⟨kin_11 ht 2 (by decide), cid 11 t 2, List.mem_map.mpr ⟨(11, t, 2, .object "PeaTube$Kept"), aa_11_2 t ht, rfl⟩, fun _ _ _ _ => rfl⟩
theorem fg_11_12 (ht : t < 1) : FdG (XC l D ad cid) 11 t 11 12 (fun I L B R => .int (I 12)) := ⟨kin_11 ht 0 (by decide), fun _ _ _ _ => ⟨_, rfl, rfl⟩⟩
theorem fs_11_12 (ht : t < 1) : FdI (XC l D ad cid) 11 t 11 12 := ⟨kin_11 ht 0 (by decide), fun _ _ _ _ _ => ⟨_, rfl, Nat.le_of_ble_eq_true rfl, rfl⟩⟩
theorem fg_11_13 (ht : t < 1) : FdG (XC l D ad cid) 11 t 11 13 (fun I L B R => .ref (ad 6 0 0)) := ⟨kin_11 ht 0 (by decide), fun _ _ _ _ => ⟨_, rfl, rfl⟩⟩
theorem fg_11_14 (ht : t < 1) : FdG (XC l D ad cid) 11 t 11 14 (fun I L B R => .ref (ad 2 0 0)) := ⟨kin_11 ht 0 (by decide), fun _ _ _ _ => ⟨_, rfl, rfl⟩⟩
theorem fg_11_15 (ht : t < 1) : FdG (XC l D ad cid) 11 t 11 15 (fun I L B R => .ref (ad 11 t 3)) := ⟨kin_11 ht 0 (by decide), fun _ _ _ _ => ⟨_, rfl, rfl⟩⟩
theorem aa_11_3 : ∀ t, t < 1 → ((11, t, 3, .object "PeaTube$Chances") : Nat × Nat × Nat × FieldType) ∈ arrC := by decide +kernel
theorem ar_11_3 (ht : t < 1) : IsQ (XC l D ad cid) 11 t 3 4 "PeaTube$Chances" (fun k => ad 2 (1 + k) 0) := ⟨kin_11 ht 3 (by decide), cid 11 t 3, List.mem_map.mpr ⟨(11, t, 3, .object "PeaTube$Chances"), aa_11_3 t ht, rfl⟩, fun _ _ _ _ => rfl⟩
theorem fg_11_16 (ht : t < 1) : FdG (XC l D ad cid) 11 t 11 16 (fun I L B R => .ref (ad 0 0 0)) := ⟨kin_11 ht 0 (by decide), fun _ _ _ _ => ⟨_, rfl, rfl⟩⟩
theorem fg_11_17 (ht : t < 1) : FdG (XC l D ad cid) 11 t 11 17 (fun I L B R => .ref (ad 1 0 0)) := ⟨kin_11 ht 0 (by decide), fun _ _ _ _ => ⟨_, rfl, rfl⟩⟩
theorem fg_11_18 (ht : t < 1) : FdG (XC l D ad cid) 11 t 11 18 (fun I L B R => .ref (ad 4 0 0)) := ⟨kin_11 ht 0 (by decide), fun _ _ _ _ => ⟨_, rfl, rfl⟩⟩
theorem fg_11_19 (ht : t < 1) : FdG (XC l D ad cid) 11 t 11 19 (fun I L B R => .ref (ad 4 1 0)) := ⟨kin_11 ht 0 (by decide), fun _ _ _ _ => ⟨_, rfl, rfl⟩⟩
end LC
