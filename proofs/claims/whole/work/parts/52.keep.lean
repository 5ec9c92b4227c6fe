/-! PURE. Writes that are not kept. -/
section KEEP
variable {σ : Mem} {b c k : Nat}
theorem PC_I0 {f} : PC (sIf σ 0 b c f) = PC σ := by simp [PC, sIf, gI, gL, gB, gR, TY]
theorem PC_I1 {f} : PC (sIf σ 1 b c f) = PC σ := by simp [PC, sIf, gI, gL, gB, gR, TY]
theorem PC_I2 {f} : PC (sIf σ 2 b c f) = PC σ := by simp [PC, sIf, gI, gL, gB, gR, TY]
theorem PC_I6 {f} : PC (sIf σ 6 b c f) = PC σ := by simp [PC, sIf, gI, gL, gB, gR, TY]
theorem PC_L1 {f} : PC (sLf σ 1 b c f) = PC σ := by simp [PC, sLf, gI, gL, gB, gR, TY]
theorem PC_L2 {f} : PC (sLf σ 2 b c f) = PC σ := by simp [PC, sLf, gI, gL, gB, gR, TY]
theorem PC_L7 {f} : PC (sLf σ 7 b c f) = PC σ := by simp [PC, sLf, gI, gL, gB, gR, TY]
theorem PC_L11 {f} : PC (sLf σ 11 b c f) = PC σ := by simp [PC, sLf, gI, gL, gB, gR, TY]
theorem PC_B1 {f} : PC (sBf σ 1 b c f) = PC σ := by simp [PC, sBf, gI, gL, gB, gR, TY]
theorem PC_st {v : Int32} : PC (sIf σ 11 0 0 (upd (gI σ 11 0 0) 0 v)) = PC σ := by simp [PC, sIf, gI, gL, gB, gR, TY, upd]
theorem PC_found {v : Int32} : PC (sIf σ 7 b 0 (upd (gI σ 7 b 0) 7 v)) = PC σ := by
  have : ∀ b', (TY (sIf σ 7 b 0 (upd (gI σ 7 b 0) 7 v)) b') = TY σ b' := by
    intro b'
    by_cases h : b' = b
    · subst h; simp [sIf, gI, TY, upd]
    · simp [sIf, gI, TY, upd, h]
  simp only [PC, this]
  simp [sIf, gI, gL, gB, gR]
theorem PC_I4 {f} : PC (sIf σ 4 1 c f) = PC σ := by simp [PC, sIf, gI, gL, gB, gR, TY]
theorem PC_B4 {f} : PC (sBf σ 4 1 c f) = PC σ := by simp [PC, sBf, gI, gL, gB, gR, TY]
theorem PC_I7 {f} : PC (sIf σ 7 1 c f) = PC σ := by
  have : ∀ i, ¬ (2 + i = 1) := by omega
  simp [PC, sIf, gI, gL, gB, gR, TY, this]
theorem blkM_congr {σ σ' : Mem} (h : gI σ' 12 0 5 = gI σ 12 0 5) (o : Nat) : blkM σ' o = blkM σ o := by unfold blkM cM; rw [h]
theorem blkW_congr {σ σ' : Mem} (h : gL σ' 12 0 7 = gL σ 12 0 7) (o : Nat) : blkW σ' o = blkW σ o := by unfold blkW wM; rw [h]
theorem PM_of {σ σ' : Mem} (h1 : gI σ' 12 0 1 = gI σ 12 0 1) (h2 : gI σ' 12 0 2 = gI σ 12 0 2) (h3 : gL σ' 12 0 3 = gL σ 12 0 3) (h4 : gI σ' 12 0 4 = gI σ 12 0 4) (h5 : gI σ' 12 0 5 = gI σ 12 0 5) (h6 : gL σ' 12 0 7 = gL σ 12 0 7) (h7 : gI σ' 12 0 12 = gI σ 12 0 12)
    (k1 : gI σ' 12 0 0 8 = gI σ 12 0 0 8) (k2 : gI σ' 12 0 0 10 = gI σ 12 0 0 10) (k3 : gI σ' 12 0 0 11 = gI σ 12 0 0 11) (k4 : gI σ' 12 0 0 23 = gI σ 12 0 0 23) (k5 : gB σ' 12 0 0 47 = gB σ 12 0 0 47) : PM σ' = PM σ := by
  unfold PM
  rw [h1, h2, h3, h4, h7, k1, k2, k3, k4, k5]
  simp only [blkM_congr h5, blkW_congr h6]
theorem PM_I {v : Int32} (h : ¬ k = 8 ∧ ¬ k = 10 ∧ ¬ k = 11 ∧ ¬ k = 23) : PM (sIf σ 12 0 0 (upd (gI σ 12 0 0) k v)) = PM σ := by
  obtain ⟨h1, h2, h3, h4⟩ := h
  apply PM_of <;> simp [gI_sI, gI_sL, gI_sB, gI_sR, gL_sI, gL_sL, gL_sB, gL_sR, gB_sI, gB_sL, gB_sB, gB_sR, gR_sI, gR_sL, gR_sB, gR_sR, upd, Ne.symm h1, Ne.symm h2, Ne.symm h3, Ne.symm h4]
theorem PM_I6 {f} : PM (sIf σ 12 0 6 f) = PM σ := by apply PM_of <;> simp [gI_sI, gI_sL, gI_sB, gI_sR, gL_sI, gL_sL, gL_sB, gL_sR, gB_sI, gB_sL, gB_sB, gB_sR, gR_sI, gR_sL, gR_sB, gR_sR]
theorem PM_I8 {f} : PM (sIf σ 12 0 8 f) = PM σ := by apply PM_of <;> simp [gI_sI, gI_sL, gI_sB, gI_sR, gL_sI, gL_sL, gL_sB, gL_sR, gB_sI, gB_sL, gB_sB, gB_sR, gR_sI, gR_sL, gR_sB, gR_sR]
theorem PM_L0 {f} : PM (sLf σ 12 0 0 f) = PM σ := by apply PM_of <;> simp [gI_sI, gI_sL, gI_sB, gI_sR, gL_sI, gL_sL, gL_sB, gL_sR, gB_sI, gB_sL, gB_sB, gB_sR, gR_sI, gR_sL, gR_sB, gR_sR]
theorem PM_L9 {f} : PM (sLf σ 12 0 9 f) = PM σ := by apply PM_of <;> simp [gI_sI, gI_sL, gI_sB, gI_sR, gL_sI, gL_sL, gL_sB, gL_sR, gB_sI, gB_sL, gB_sB, gB_sR, gR_sI, gR_sL, gR_sB, gR_sR]
theorem PM_L10 {f} : PM (sLf σ 12 0 10 f) = PM σ := by apply PM_of <;> simp [gI_sI, gI_sL, gI_sB, gI_sR, gL_sI, gL_sL, gL_sB, gL_sR, gB_sI, gB_sL, gB_sB, gB_sR, gR_sI, gR_sL, gR_sB, gR_sR]
theorem PM_L11 {f} : PM (sLf σ 12 0 11 f) = PM σ := by apply PM_of <;> simp [gI_sI, gI_sL, gI_sB, gI_sR, gL_sI, gL_sL, gL_sB, gL_sR, gB_sI, gB_sL, gB_sB, gB_sR, gR_sI, gR_sL, gR_sB, gR_sR]
theorem PM_B {v : Bool} (h : ¬ k = 47) : PM (sBf σ 12 0 0 (upB (gB σ 12 0 0) k v)) = PM σ := by apply PM_of <;> simp [gI_sI, gI_sL, gI_sB, gI_sR, gL_sI, gL_sL, gL_sB, gL_sR, gB_sI, gB_sL, gB_sB, gB_sR, gR_sI, gR_sL, gR_sB, gR_sR, upB, Ne.symm h]
end KEEP
theorem st_status {σC σM : Mem} (h : Rel σC σM) : Stq (some (F11_status σC, σC)) (F12_status σM) := by
  refine ⟨_, _, _, rfl, ?_, h.q (σM' := sI σM 12 0 0 1 0) rfl (PM_I (by decide)) ?_ h.2.2.1 h.2.2.2⟩
  · rw [F11_status, h.2.1]; rfl
  · rw [h.2.1]; rfl
theorem st_top {σC σM : Mem} (h : Rel σC σM) : Stq (some (F11_top σC, σC)) (F12_top σM) := by
  refine ⟨_, _, _, rfl, ?_, h.q (σM' := sI σM 12 0 0 1 0) rfl (PM_I (by decide)) (by rw [h.2.1]; rfl) h.2.2.1 h.2.2.2⟩
  rw [F11_top, h.2.2.1]; rfl
theorem st_bottom {σC σM : Mem} (h : Rel σC σM) : Stq (some (F11_bottom σC, σC)) (F12_bottom σM) := by
  refine ⟨_, _, _, rfl, ?_, h.q (σM' := sI σM 12 0 0 1 0) rfl (PM_I (by decide)) (by rw [h.2.1]; rfl) h.2.2.1 h.2.2.2⟩
  rw [F11_bottom, h.2.2.2]; rfl
theorem st_fault {σC σM : Mem} (h : Rel σC σM) (x : Int32) : Stq (some (F11_fault σC x, σC)) (F12_fault σM x) := by
  refine ⟨_, _, _, rfl, ?_, h.q (σM' := sI σM 12 0 0 1 0) rfl (PM_I (by decide)) (by rw [h.2.1]; rfl) h.2.2.1 h.2.2.2⟩
  obtain ⟨-, -, -, e1, e2, -⟩ := h.1.2.1.1
  unfold F11_fault F12_fault
  simp only [bnd_eq, bd_some, bd_none, Option.bind_some, Option.bind_none, e1, e2]
  split
  · rfl
  · split <;> rfl
