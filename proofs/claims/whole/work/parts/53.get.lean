/-! PURE. Calls that only tell what is there. -/
abbrev cS (σ : Mem) (v : Int32) : Mem := sI σ 11 0 0 0 v
abbrev mS (σ : Mem) : Mem := sI (sI σ 12 0 0 1 0) 12 0 0 0 0
theorem ans_eq (σ : Mem) (v : Int32) : F11_answer σ v = some (v, cS σ 0) := rfl
theorem ref_eq (σ : Mem) (v : Int32) : F11_refuse σ v = some (-1, cS σ v) := rfl
theorem agr_eq (σ : Mem) : F11_agree σ = some (true, cS σ 0) := rfl
theorem den_eq (σ : Mem) (v : Int32) : F11_deny σ v = some (false, cS σ v) := rfl
theorem mref_eq (σ : Mem) (v : Int32) : F12_refuse σ v = some (-1, sI σ 12 0 0 0 v) := rfl
theorem mno_eq (σ : Mem) (v : Int32) : F12_no σ v = some (false, sI σ 12 0 0 0 v) := rfl
section GET
variable {σC σM : Mem}
theorem PM_mS : PM (mS σM) = PM σM := by rw [PM_I (by decide), PM_I (by decide)]
theorem Rel.ok (h : Rel σC σM) : Rel (cS σC 0) (mS σM) := h.q PC_st PM_mS rfl h.2.2.1 h.2.2.2
theorem Rel.no (h : Rel σC σM) (v : Int32) : Rel (cS σC v) (sI (mS σM) 12 0 0 0 v) := h.q PC_st (by rw [PM_I (by decide), PM_mS]) rfl h.2.2.1 h.2.2.2
theorem blk0 {k : Nat} (h : k < 600) : blkM σM 0 k = cM σM k := by simp [blkM, h]
theorem blkW0 {k : Nat} (h : k < 14) : blkW σM 0 k = wM σM k := by simp [blkW, h]
theorem nat_lt {x : Int32} {n : Nat} {v : Int32} (h : x ≤ v) (hv : v.toInt = n) {k : Nat} (hk : k < nat x) : k < n := by
  have := nat_i x; have := i32_le.mp h; omega
theorem Rel.t5 (h : Rel σC σM) : gR σC 11 0 0 5 < 5 := by have := h.1.2.2.1.1.1; omega
theorem Rel.r5 (h : Rel σC σM) : gR σC 11 0 0 7 < 5 := by have := h.1.2.2.1.2.1; omega
/-- the tent that is there, in the model's first cells -/
theorem Rel.tentOk (h : Rel σC σM) : TentOk (cM σM) := by
  obtain ⟨h1, h2, h3, h4, h5, h6, h7, h8, h9, h10, h11⟩ := h.1.2.2.2.1.1
  simp only [blk0 (show 0 < 600 by decide), blk0 (show 1 < 600 by decide), blk0 (show 2 < 600 by decide), blk0 (show 3 < 600 by decide), blk0 (show 4 < 600 by decide), blk0 (show 5 < 600 by decide), blk0 (show 6 < 600 by decide)] at h1 h2 h3 h4 h5 h6 h7 h8 h9 h10 h11
  refine ⟨h1, h2, h3, h4, h5, h6, h7, fun k hk => ?_, fun k hk => ?_, fun k hk => ?_, fun k hk => ?_⟩
  · have hb := nat_lt (n := 6) h5.2 rfl hk
    have := h8 k hk
    rwa [blk0 (by omega), blk0 (by omega)] at this
  · have hb := nat_lt (n := 6) h5.2 rfl hk
    have := h9 k hk
    rwa [blk0 (by omega), blk0 (by omega), blk0 (by omega), blk0 (by omega)] at this
  · have hb := nat_lt (n := 8) h6.2 rfl hk
    have := h10 k hk
    rwa [blk0 (by omega), blk0 (by omega), blk0 (by omega), blk0 (by omega)] at this
  · have hb := nat_lt (n := 6) h7.2 rfl hk
    have := h11 k hk
    rwa [blk0 (by omega), blk0 (by omega), blk0 (by omega), blk0 (by omega)] at this
theorem Rel.tent (h : Rel σC σM) : TentR (gI σC 9 (gR σC 11 0 0 5)) (gL σC 9 (gR σC 11 0 0 5)) (cM σM) (wM σM) := by
  obtain ⟨o1, o2, o3, o4, o5, o6, o7, -⟩ := h.tentOk
  obtain ⟨h1, h2, h3, h4, h5, h6, h7, h8, h9, h10⟩ := h.1.2.2.2.1.2.1
  simp only [blk0 (show 0 < 600 by decide), blk0 (show 1 < 600 by decide), blk0 (show 2 < 600 by decide), blk0 (show 3 < 600 by decide), blk0 (show 4 < 600 by decide), blk0 (show 5 < 600 by decide), blk0 (show 6 < 600 by decide)] at h1 h2 h3 h4 h5 h6 h7 h8 h9 h10
  refine ⟨h1, h2, h3, h4, h5, h6, h7, fun k hk => ?_, fun k hk => ?_, fun k hk => ?_⟩
  · have hb := nat_lt (n := 6) o5.2 rfl hk
    have := h8 k hk
    rwa [blk0 (by omega), blk0 (by omega)] at this
  · have hb := nat_lt (n := 8) o6.2 rfl hk
    have := h9 k hk
    rwa [blk0 (by omega), blk0 (by omega), blk0 (by omega), blk0 (by omega), blkW0 (by omega)] at this
  · have hb := nat_lt (n := 6) o7.2 rfl hk
    have := h10 k hk
    rwa [blk0 (by omega), blk0 (by omega), blk0 (by omega), blk0 (by omega), blkW0 (by omega)] at this
theorem Rel.tally (h : Rel σC σM) : TallyR (TY σC 0) (cM σM) := by
  obtain ⟨⟨h1, h2⟩, ⟨h3, h4⟩, h5, h6⟩ := h.1.2.2.2.1.2.2.1
  simp only [blk0 (show 7 < 600 by decide), blk0 (show 8 < 600 by decide)] at h1 h2 h3 h4 h5 h6
  refine ⟨⟨h1, h2⟩, ⟨h3, h4⟩, fun k hk => ?_, fun k hk => ?_⟩
  · have := h5 k hk; rwa [blk0 (by omega)] at this
  · have hb := nat_lt (n := 60) h4.2 rfl hk
    have := h6 k hk; rwa [blk0 (by omega), blk0 (by omega), blk0 (by omega), blk0 (by omega)] at this
theorem st_many (h : Rel σC σM) (x : Int32) : Stq (F11_many σC x) (F12_many σM x) := by
  obtain ⟨h1, h2, h3, h4, h5, h6, h7, -⟩ := h.tent
  obtain ⟨⟨y1, y2⟩, -⟩ := h.tally
  simp only [F11_many, gd_at h.t5, ans_eq, ref_eq, bnd_eq, bd_some, bd_none, Option.bind_some, Option.bind_none]
  by_cases e0 : x = 0
  · subst e0; exact ⟨_, _, _, rfl, congrArg some (Prod.ext h1.symm rfl), h.ok⟩
  by_cases e1 : x = 1
  · subst e1; exact ⟨_, _, _, rfl, congrArg some (Prod.ext h2.symm rfl), h.ok⟩
  by_cases e2 : x = 2
  · subst e2; exact ⟨_, _, _, rfl, congrArg some (Prod.ext h3.symm rfl), h.ok⟩
  by_cases e3 : x = 3
  · subst e3; exact ⟨_, _, _, rfl, congrArg some (Prod.ext h4.symm rfl), h.ok⟩
  by_cases e4 : x = 4
  · subst e4; exact ⟨_, _, _, rfl, congrArg some (Prod.ext h5.symm rfl), h.ok⟩
  by_cases e5 : x = 5
  · subst e5; exact ⟨_, _, _, rfl, congrArg some (Prod.ext h6.symm rfl), h.ok⟩
  by_cases e6 : x = 6
  · subst e6; exact ⟨_, _, _, rfl, congrArg some (Prod.ext h7.symm rfl), h.ok⟩
  by_cases e7 : x = 7
  · subst e7; exact ⟨_, _, _, rfl, congrArg some (Prod.ext y1.symm rfl), h.ok⟩
  by_cases e8 : x = 8
  · subst e8; exact ⟨_, _, _, rfl, congrArg some (Prod.ext y2.symm rfl), h.ok⟩
  have hn : ¬ (F12_isIn x.toInt64 0 8 = true) := by
    rw [show (0 : Int64) = (0 : Int32).toInt64 from rfl, show (8 : Int64) = (8 : Int32).toInt64 from rfl, isIn32_iff]; grind
  simp only [e0, e1, e2, e3, e4, e5, e6, e7, e8, if_false]
  refine ⟨_, _, _, rfl, ?_, h.no 5⟩
  simp only [F12_many, bnd_eq, bd_some, bd_none, Option.bind_some, Option.bind_none, hn, mref_eq, if_false]
  rfl
end GET
