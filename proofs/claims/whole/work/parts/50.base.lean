/-! PURE. Numbers, reading behind writing, the shapes. -/
theorem i32_le {x y : Int32} : x ≤ y ↔ x.toInt ≤ y.toInt := Int32.le_iff_toInt_le
theorem i32_lt {x y : Int32} : x < y ↔ x.toInt < y.toInt := Int32.lt_iff_toInt_lt
theorem i32_eq {x y : Int32} : x = y ↔ x.toInt = y.toInt := Int32.toInt_inj.symm
theorem i64_le {x y : Int64} : x ≤ y ↔ x.toInt ≤ y.toInt := Int64.le_iff_toInt_le
theorem i64_lt {x y : Int64} : x < y ↔ x.toInt < y.toInt := Int64.lt_iff_toInt_lt
theorem i64_eq {x y : Int64} : x = y ↔ x.toInt = y.toInt := Int64.toInt_inj.symm
theorem i32_clamp {x : Int32} : (x.toNatClampNeg : Int) = max x.toInt 0 := by rw [Int32.toNatClampNeg]; omega
theorem i32_clamp0 {x : Int32} (h : 0 ≤ x.toInt) : (x.toNatClampNeg : Int) = x.toInt := by rw [i32_clamp]; omega
theorem bm32 {x : Int} (h1 : -2147483648 ≤ x) (h2 : x < 2147483648) : x.bmod (2^32) = x := by rw [Int.bmod_eq_of_le] <;> omega
theorem bm64 {x : Int} (h1 : -9223372036854775808 ≤ x) (h2 : x < 9223372036854775808) : x.bmod (2^64) = x := by rw [Int.bmod_eq_of_le] <;> omega
theorem i32_add {x y : Int32} (h1 : -2147483648 ≤ x.toInt + y.toInt) (h2 : x.toInt + y.toInt < 2147483648) : (x + y).toInt = x.toInt + y.toInt := by rw [Int32.toInt_add, bm32 h1 h2]
theorem i32_sub {x y : Int32} (h1 : -2147483648 ≤ x.toInt - y.toInt) (h2 : x.toInt - y.toInt < 2147483648) : (x - y).toInt = x.toInt - y.toInt := by rw [Int32.toInt_sub, bm32 h1 h2]
theorem i32_mul {x y : Int32} (h1 : -2147483648 ≤ x.toInt * y.toInt) (h2 : x.toInt * y.toInt < 2147483648) : (x * y).toInt = x.toInt * y.toInt := by rw [Int32.toInt_mul, bm32 h1 h2]
theorem i32_neg {x : Int32} (h1 : -2147483648 < x.toInt) : (-x).toInt = -x.toInt := by rw [Int32.toInt_neg, bm32 (by have := x.toInt_lt; omega) (by omega)]
theorem i32_div {x y : Int32} (h1 : -2147483648 < x.toInt) (hy : 0 < y.toInt) : (x / y).toInt = x.toInt.tdiv y.toInt := by
  rw [Int32.toInt_div, bm32]
  · have := Int.natAbs_tdiv_le_natAbs x.toInt y.toInt
    have := x.toInt_lt
    omega
  · have := Int.natAbs_tdiv_le_natAbs x.toInt y.toInt
    have := x.toInt_lt
    omega
theorem i64_add {x y : Int64} (h1 : -9223372036854775808 ≤ x.toInt + y.toInt) (h2 : x.toInt + y.toInt < 9223372036854775808) : (x + y).toInt = x.toInt + y.toInt := by rw [Int64.toInt_add, bm64 h1 h2]
theorem i64_sub {x y : Int64} (h1 : -9223372036854775808 ≤ x.toInt - y.toInt) (h2 : x.toInt - y.toInt < 9223372036854775808) : (x - y).toInt = x.toInt - y.toInt := by rw [Int64.toInt_sub, bm64 h1 h2]
theorem i64_mul {x y : Int64} (h1 : -9223372036854775808 ≤ x.toInt * y.toInt) (h2 : x.toInt * y.toInt < 9223372036854775808) : (x * y).toInt = x.toInt * y.toInt := by rw [Int64.toInt_mul, bm64 h1 h2]
theorem i64_of32 (x : Int32) : x.toInt64.toInt = x.toInt := Int32.toInt_toInt64 x
theorem i64_neg {x : Int64} (h1 : -9223372036854775808 < x.toInt) : (-x).toInt = -x.toInt := by rw [Int64.toInt_neg, bm64 (by have := x.toInt_lt; omega) (by omega)]
theorem nI_int {n : Nat} (h : n < 2147483648) : (nI n).toInt = n := nI_toInt h
theorem nI_of32 {x : Int32} (h : 0 ≤ x) : x = nI x.toNatClampNeg := by
  have h1 : 0 ≤ x.toInt := i32_le.mp h
  have h2 := i32_clamp0 h1
  have h3 := x.toInt_lt
  rw [i32_eq, nI_int (by omega)]; omega
theorem cl_nI {n : Nat} (h : n < 2147483648) : (nI n).toNatClampNeg = n := nI_clamp h
theorem cl_lt {x : Int32} {n : Nat} (h : 0 ≤ x.toInt) (h2 : x.toInt < n) : x.toNatClampNeg < n := by have := i32_clamp0 h; omega
section RDS
variable {σ : Mem} {a b c a' b' c' : Nat}
theorem gI_sI {f} : gI (sIf σ a b c f) a' b' c' = if a' = a ∧ b' = b ∧ c' = c then f else gI σ a' b' c' := rfl
theorem gI_sL {f} : gI (sLf σ a b c f) a' b' c' = gI σ a' b' c' := rfl
theorem gI_sB {f} : gI (sBf σ a b c f) a' b' c' = gI σ a' b' c' := rfl
theorem gI_sR {f} : gI (sRf σ a b c f) a' b' c' = gI σ a' b' c' := rfl
theorem gL_sL {f} : gL (sLf σ a b c f) a' b' c' = if a' = a ∧ b' = b ∧ c' = c then f else gL σ a' b' c' := rfl
theorem gL_sI {f} : gL (sIf σ a b c f) a' b' c' = gL σ a' b' c' := rfl
theorem gL_sB {f} : gL (sBf σ a b c f) a' b' c' = gL σ a' b' c' := rfl
theorem gL_sR {f} : gL (sRf σ a b c f) a' b' c' = gL σ a' b' c' := rfl
theorem gB_sB {f} : gB (sBf σ a b c f) a' b' c' = if a' = a ∧ b' = b ∧ c' = c then f else gB σ a' b' c' := rfl
theorem gB_sI {f} : gB (sIf σ a b c f) a' b' c' = gB σ a' b' c' := rfl
theorem gB_sL {f} : gB (sLf σ a b c f) a' b' c' = gB σ a' b' c' := rfl
theorem gB_sR {f} : gB (sRf σ a b c f) a' b' c' = gB σ a' b' c' := rfl
theorem gR_sR {f} : gR (sRf σ a b c f) a' b' c' = if a' = a ∧ b' = b ∧ c' = c then f else gR σ a' b' c' := rfl
theorem gR_sI {f} : gR (sIf σ a b c f) a' b' c' = gR σ a' b' c' := rfl
theorem gR_sL {f} : gR (sLf σ a b c f) a' b' c' = gR σ a' b' c' := rfl
theorem gR_sB {f} : gR (sBf σ a b c f) a' b' c' = gR σ a' b' c' := rfl
end RDS
theorem upd_eq (f : Nat → Int32) (k j : Nat) (x : Int32) : upd f k x j = if j = k then x else f j := rfl
theorem updL_eq (f : Nat → Int64) (k j : Nat) (x : Int64) : vp_updL f k x j = if j = k then x else f j := rfl
theorem upB_eq (f : Nat → Bool) (k j : Nat) (x : Bool) : upB f k x j = if j = k then x else f j := rfl
theorem upR_eq (f : Nat → Nat) (k j : Nat) (x : Nat) : upR f k x j = if j = k then x else f j := rfl
theorem bnd_eq {β γ : Type} (x : β) (f : β → γ) : bnd x f = f x := rfl
theorem bd_some {β γ : Type} (x : β) (s : Mem) (K : β → Mem → Option γ) : bd (some (x, s)) K = K x s := rfl
theorem bd_none {β γ : Type} (K : β → Mem → Option γ) : bd (none : Option (β × Mem)) K = none := rfl
theorem ald_at {β : Type} {n : Nat} {f : Nat → β} {i : Int32} (h0 : 0 ≤ i.toInt) (h : i.toInt < n) : ald n f i = some (f i.toNatClampNeg) := by
  have h1 := i32_clamp0 h0
  have h3 : ¬ (i < 0 ∨ n ≤ i.toNatClampNeg) := by
    rw [i32_lt]; have : (0 : Int32).toInt = 0 := rfl
    omega
  simp only [ald, h3, if_false]
theorem ald_nI {β : Type} {n : Nat} {f : Nat → β} {k : Nat} (h : k < n) (hn : n < 2147483648) : ald n f (nI k) = some (f k) := by
  rw [ald_at (by rw [nI_int (by omega)]; omega) (by rw [nI_int (by omega)]; omega), cl_nI (by omega)]
theorem chk_at {γ : Type} {n : Nat} {i : Int32} {e : Option γ} (h0 : 0 ≤ i.toInt) (h : i.toInt < n) : chk n i e = e := by
  have h1 := i32_clamp0 h0
  have h3 : ¬ (i < 0 ∨ n ≤ i.toNatClampNeg) := by
    rw [i32_lt]; have : (0 : Int32).toInt = 0 := rfl
    omega
  simp only [chk, h3, if_false]
theorem chk_nI {γ : Type} {n : Nat} {k : Nat} {e : Option γ} (h : k < n) (hn : n < 2147483648) : chk n (nI k) e = e := chk_at (by rw [nI_int (by omega)]; omega) (by rw [nI_int (by omega)]; omega)
theorem gd_at {γ : Type} {n v : Nat} {K : Nat → Option γ} (h : v < n) : gd n v K = K v := by simp only [gd, h, if_true]
theorem fuel_big : 1100000 ≤ fuelK := by decide
theorem within_iff {x a b : Int32} : F11_within x a b = true ↔ a ≤ x ∧ x ≤ b := by unfold F11_within; grind
theorem isIn_iff {x a b : Int64} : F12_isIn x a b = true ↔ a ≤ x ∧ x ≤ b := by unfold F12_isIn; grind
theorem isIn32_iff {x a b : Int32} : F12_isIn x.toInt64 a.toInt64 b.toInt64 = true ↔ a ≤ x ∧ x ≤ b := by
  rw [isIn_iff, i64_le, i64_le, i64_of32, i64_of32, i64_of32, ← i32_le, ← i32_le]
theorem isIn_within {x a b : Int32} : F12_isIn x.toInt64 a.toInt64 b.toInt64 = F11_within x a b := by
  rw [Bool.eq_iff_iff, isIn32_iff, within_iff]
