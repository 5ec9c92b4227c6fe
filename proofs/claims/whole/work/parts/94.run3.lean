/-! PURE. play, wins: the class's run at a block's end, at a when, at a loop. -/
section PRW
variable {σ τ : Mem} {t u y r s p q P k m mx : Nat} {c : Nat → Int32}
theorem run_end0 (hP : gI σ 5 r 0 2 = nI P) (hq : q < P) (hP6 : P ≤ 60) (hx : mx < 1000000) (e28 : gI σ 5 r 1 q = 28) (n : Nat) :
    F4_run_L12 t r u y (n + 1) σ (nI q) (nI mx) = bd (F4_behindEnd σ t r (nI q)) fun v_10 s_11 => (F4_run_L12 t r u y n) s_11 v_10 (nI mx + 1) := by
  simp only [F4_run_L12.eq_2]
  rw [if_neg (show ¬ (1000000 : Int32) ≤ nI mx from nI_ge (a := mx) (b := 1000000) (by omega) (by omega)), if_neg (nI_pos (by omega)), hP, if_neg (nI_ge (by omega) (by omega)), ald_nI (by omega) (by omega), Option.bind_some, if_pos e28]
/-- behind a when's end it goes on -/
theorem run_endW (hP : gI σ 5 r 0 2 = nI P) (hq : q < P) (hP6 : P ≤ 60) (hx : mx < 1000000) (e28 : gI σ 5 r 1 q = 28) (e5 : gI σ 5 r 5 q = nI p) (hp : p < q) (n27 : ¬ gI σ 5 r 1 p = 27) (n : Nat) :
    F4_run_L12 t r u y (n + 1) σ (nI q) (nI mx) = F4_run_L12 t r u y n σ (nI (q + 1)) (nI (mx + 1)) := by
  rw [run_end0 hP hq hP6 hx e28]
  unfold F4_behindEnd
  have hw : F11_within (nI p) 0 (nI q - 1) = true := wi_ok hp (by omega)
  rw [ald_nI (by omega) (by omega), Option.bind_some, e5, if_pos hw, ald_nI (by omega) (by omega), Option.bind_some, if_neg n27, bd_some, nI_1, nI_1]
/-- behind a loop's end it goes on, or back -/
theorem run_endL (hP : gI σ 5 r 0 2 = nI P) (hq : q < P) (hP6 : P ≤ 60) (hx : mx < 1000000) (e28 : gI σ 5 r 1 q = 28) (e5 : gI σ 5 r 5 q = nI p) (hp : p < q) (e27 : gI σ 5 r 1 p = 27) (td : gI σ 4 t 1 p = nI (m + 1)) (hm : m < 99) (n : Nat) :
    F4_run_L12 t r u y (n + 1) σ (nI q) (nI mx) = F4_run_L12 t r u y n (sI σ 4 t 1 p (nI m)) (nI (if m = 0 then q + 1 else p + 1)) (nI (mx + 1)) := by
  rw [run_end0 hP hq hP6 hx e28]
  unfold F4_behindEnd
  have em : nI (m + 1) - 1 = nI m := by rw [show (1 : Int32) = nI 1 from rfl, pk_sub (by omega)]; rfl
  have hw : F11_within (nI p) 0 (nI q - 1) = true := wi_ok hp (by omega)
  rw [ald_nI (by omega) (by omega), Option.bind_some, e5, if_pos hw, ald_nI (by omega) (by omega), Option.bind_some, if_pos e27, ald_nI (by omega) (by omega), Option.bind_some, td, chk_nI (by omega) (by omega), bnd_eq, cl_nI (by omega), em, ald_nI (by omega) (by omega), Option.bind_some, rI_s]
  by_cases z : m = 0
  · subst z
    rw [if_pos (show nI 0 ≤ (0 : Int32) from Int32.le_refl _), if_pos rfl, bd_some, nI_1, nI_1]
  · rw [if_neg (show ¬ nI m ≤ (0 : Int32) from nI_nle (by omega) (by omega)), if_neg z, bd_some, nI_1, nI_1]
/-- a step of the class that is no end, below 300 -/
theorem run_at (hc1 : gI σ 4 t 0 1 = nI k) (k3 : k < 300) (hP : gI σ 5 r 0 2 = nI P) (hp : p < P) (hP6 : P ≤ 60) (hx : mx < 1000000) (n28 : ¬ gI σ 5 r 1 p = 28) (n29 : ¬ gI σ 5 r 1 p = 29) (n : Nat) :
    F4_run_L12 t r u y (n + 1) σ (nI p) (nI mx) = (if gI σ 5 r 1 p = 23 then ((F4_holds (sI σ 4 t 0 1 (nI (k + 1))) r (nI p) y).bind fun v_5 => if v_5 = true then (bd (F4_doStep (sI σ 4 t 0 1 (nI (k + 1))) t r (nI p) u y) fun _ s_6 => (F4_run_L12 t r u y n) s_6 (nI (p + 1)) (nI (mx + 1))) else ((ald 60 (gI (sI σ 4 t 0 1 (nI (k + 1))) 5 r 5) (nI p)).bind fun v_7 => bnd (v_7 + 1) fun v_8 => (F4_run_L12 t r u y n) (sI σ 4 t 0 1 (nI (k + 1))) v_8 (nI (mx + 1)))) else (bd (F4_doStep (sI σ 4 t 0 1 (nI (k + 1))) t r (nI p) u y) fun _ s_4 => (F4_run_L12 t r u y n) s_4 (nI (p + 1)) (nI (mx + 1)))) := by
  simp only [F4_run_L12.eq_2]
  rw [if_neg (show ¬ (1000000 : Int32) ≤ nI mx from nI_ge (a := mx) (b := 1000000) (by omega) (by omega)), if_neg (nI_pos (by omega)), hP, if_neg (nI_ge (by omega) (by omega)), ald_nI (by omega) (by omega), Option.bind_some, if_neg n28, hc1, if_pos (show nI k < (300 : Int32) from nI_lt (b := 300) (by omega) (by omega)), bnd_eq, if_neg n29, nI_1, nI_1, nI_1]
/-- a when -/
theorem run_when {b : Bool} (hc1 : gI σ 4 t 0 1 = nI k) (k3 : k < 300) (hP : gI σ 5 r 0 2 = nI P) (hp : p < P) (hP6 : P ≤ 60) (hx : mx < 1000000) (e23 : gI σ 5 r 1 p = 23) (e5 : gI σ 5 r 5 p = nI q)
    (ho : F4_holds (sI σ 4 t 0 1 (nI (k + 1))) r (nI p) y = some b) (n : Nat) :
    F4_run_L12 t r u y (n + 1) σ (nI p) (nI mx) = F4_run_L12 t r u y n (sI σ 4 t 0 1 (nI (k + 1))) (nI (if b = true then p + 1 else q + 1)) (nI (mx + 1)) := by
  have w5 : ∀ j, gI (sI σ 4 t 0 1 (nI (k + 1))) 5 r j = gI σ 5 r j := fun j => rI_a (by decide)
  rw [run_at hc1 k3 hP hp hP6 hx (by rw [e23]; decide) (by rw [e23]; decide), if_pos e23, ho, Option.bind_some]
  cases b with
  | true =>
    rw [if_pos rfl, if_pos rfl]
    unfold F4_doStep
    rw [w5, w5, ald_nI (by omega) (by omega), Option.bind_some, ald_nI (by omega) (by omega), Option.bind_some, e23]
    simp (disch := decide) only [if_pos, if_neg]
    rw [bd_some]
  | false =>
    rw [if_neg (by decide), if_neg (by decide), w5, ald_nI (by omega) (by omega), Option.bind_some, e5, bnd_eq, nI_1]
/-- a loop -/
theorem run_loop (hc1 : gI σ 4 t 0 1 = nI k) (k3 : k < 300) (hP : gI σ 5 r 0 2 = nI P) (hp : p < P) (hP6 : P ≤ 60) (hx : mx < 1000000) (e27 : gI σ 5 r 1 p = 27) (n : Nat) :
    F4_run_L12 t r u y (n + 1) σ (nI p) (nI mx) = F4_run_L12 t r u y n (sI (sI σ 4 t 0 1 (nI (k + 1))) 4 t 1 p (gI σ 5 r 2 p)) (nI (p + 1)) (nI (mx + 1)) := by
  have w5 : ∀ j, gI (sI σ 4 t 0 1 (nI (k + 1))) 5 r j = gI σ 5 r j := fun j => rI_a (by decide)
  rw [run_at hc1 k3 hP hp hP6 hx (by rw [e27]; decide) (by rw [e27]; decide), if_neg (by rw [e27]; decide)]
  unfold F4_doStep
  rw [w5, w5, ald_nI (by omega) (by omega), Option.bind_some, ald_nI (by omega) (by omega), Option.bind_some, e27]
  simp (disch := decide) only [if_pos, if_neg]
  rw [chk_nI (by omega) (by omega), bnd_eq, cl_nI (by omega), bd_some]
end PRW
