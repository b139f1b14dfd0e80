/-! the leaves -/
def hereX (mem : mmM) : Int := if 0 ≤ mem 1 2 ∧ mem 1 2 < mem 1 1 ∧ mem 1 2 < 160 then mem 2 (mem 1 2) else 0
abbrev isLet (c : Int) : Prop := c = 97 ∨ c = 115 ∨ c = 108 ∨ c = 103 ∨ c = 99 ∨ c = 109
def withinS (z : Int) : Int := if 1000000 < z then 1000000 else if z < -1000000 then -1000000 else z
def percS (z : Int) : Int := if z < 0 then 0 else if 100 < z then 100 else z
def letS (c : Int) : Int := if c = 97 then 0 else if c = 115 then 1 else if c = 108 then 2 else if c = 103 then 3 else if c = 99 then 4 else if c = 109 then 5 else -1
theorem withinS_rng (z : Int) : R32 (withinS z) := by unfold withinS; split <;> (try split) <;> omega
theorem percS_rng (z : Int) : R32 (percS z) := by unfold percS; split <;> (try split) <;> omega
theorem letS_rng (z : Int) : R32 (letS z) := by unfold letS; repeat' split <;> omega
/-! bits -/
theorem and1_01 (z : Int) : and32 z 1 = 0 ∨ and32 z 1 = 1 := by
  unfold and32
  have h : (Int32.ofInt z &&& Int32.ofInt 1) = 0 ∨ (Int32.ofInt z &&& Int32.ofInt 1) = 1 := by
    have e : (Int32.ofInt 1).toBitVec = 1#32 := rfl
    generalize Int32.ofInt z = y
    have h2 : (y &&& Int32.ofInt 1).toBitVec = y.toBitVec &&& 1#32 := rfl
    rcases (show y.toBitVec &&& 1#32 = 0#32 ∨ y.toBitVec &&& 1#32 = 1#32 by
      have h3 := BitVec.and_one_eq_setWidth_ofBool_getLsbD (x := y.toBitVec)
      rw [h3]
      cases y.toBitVec.getLsbD 0
      · exact Or.inl rfl
      · exact Or.inr rfl) with h4 | h4
    · exact Or.inl (Int32.toBitVec_inj.mp (by rw [h2, h4]; rfl))
    · exact Or.inr (Int32.toBitVec_inj.mp (by rw [h2, h4]; rfl))
  rcases h with h | h
  · left; rw [h]; rfl
  · right; rw [h]; rfl
theorem c_X8_has (mem : mmM) (x1 : Int) (g0 : R32 x1) : con 0 bX8_has 1 [(2, 23), (0, x1)] mem (fun v m => v = (b2i (0 ≤ x1 ∧ x1 < (mem 23 1))) ∧ m = mem) :=
  cn_X8_has (bk_X8_has_0 (by intros; refine ⟨?_, rfl⟩; unfold b2i; split <;> omega) (by intros; refine ⟨?_, rfl⟩; unfold b2i; split <;> omega) (by intros; refine ⟨?_, rfl⟩; unfold b2i; split <;> omega))
theorem c_X9_isDigit (mem : mmM) (x0 : Int) (g0 : R32 x0) : con 0 bX9_isDigit 1 [(0, x0)] mem (fun v m => v = (b2i (48 ≤ x0 ∧ x0 ≤ 57)) ∧ m = mem) :=
  cn_X9_isDigit (bk_X9_isDigit_0 (by intros; refine ⟨?_, rfl⟩; unfold b2i; split <;> omega) (by intros; refine ⟨?_, rfl⟩; unfold b2i; split <;> omega) (by intros; refine ⟨?_, rfl⟩; unfold b2i; split <;> omega))
theorem c_X2_isLetter (mem : mmM) (x0 : Int) (g0 : R32 x0) : con 0 bX2_isLetter 1 [(0, x0)] mem (fun v m => v = (b2i (isLet x0)) ∧ m = mem) :=
  cn_X2_isLetter (bk_X2_isLetter_0 (by intros; refine ⟨?_, rfl⟩; unfold b2i; split <;> omega) (by intros; refine ⟨?_, rfl⟩; unfold b2i; split <;> omega) (by intros; refine ⟨?_, rfl⟩; unfold b2i; split <;> omega) (by intros; refine ⟨?_, rfl⟩; unfold b2i; split <;> omega) (by intros; refine ⟨?_, rfl⟩; unfold b2i; split <;> omega) (by intros; refine ⟨?_, rfl⟩; unfold b2i; split <;> omega) (by intros; refine ⟨?_, rfl⟩; unfold b2i; split <;> omega))
theorem c_X11_isActor (mem : mmM) (x0 : Int) (g0 : R32 x0) : con 0 bX11_isActor 1 [(0, x0)] mem (fun v m => v = (b2i (0 ≤ x0 ∧ x0 < 8)) ∧ m = mem) :=
  cn_X11_isActor (bk_X11_isActor_0 (by intros; refine ⟨?_, rfl⟩; unfold b2i; split <;> omega) (by intros; refine ⟨?_, rfl⟩; unfold b2i; split <;> omega) (by intros; refine ⟨?_, rfl⟩; unfold b2i; split <;> omega))
theorem c_X11_isMostSaid (mem : mmM) (x0 : Int) (g0 : R32 x0) : con 0 bX11_isMostSaid 1 [(0, x0)] mem (fun v m => v = (b2i (1 ≤ x0 ∧ x0 ≤ 200)) ∧ m = mem) :=
  cn_X11_isMostSaid (bk_X11_isMostSaid_0 (by intros; refine ⟨?_, rfl⟩; unfold b2i; split <;> omega) (by intros; refine ⟨?_, rfl⟩; unfold b2i; split <;> omega) (by intros; refine ⟨?_, rfl⟩; unfold b2i; split <;> omega))
theorem c_X6_isMarked (mem : mmM) (x1 : Int)  : con 0 bX6_isMarked 1 [(2, 47), (0, x1)] mem (fun v m => v = (b2i (and32 (shr32 (mem 47 0) x1) 1 = 1)) ∧ m = mem) :=
  cn_X6_isMarked (bk_X6_isMarked_0 (by intros; refine ⟨?_, rfl⟩; have h01 := and1_01 (shr32 (mem 47 0) x1); unfold b2i; split <;> omega) (by intros; refine ⟨?_, rfl⟩; have h01 := and1_01 (shr32 (mem 47 0) x1); unfold b2i; split <;> omega))
theorem c_X2_within (mem : mmM) (x0 : Int) (g0 : R64 x0) : con 0 bX2_within 1 [(1, x0)] mem (fun v m => v = (withinS x0) ∧ m = mem) :=
  cn_X2_within (bk_X2_within_0 (by intros; refine ⟨?_, rfl⟩; unfold withinS; repeat' split <;> omega) (by intros; refine ⟨?_, rfl⟩; unfold withinS; repeat' split <;> omega) (by intros; refine ⟨?_, rfl⟩; unfold withinS; repeat' split <;> omega))
theorem c_X9_here (mem : mmM)  : con 0 bX9_here 1 [(2, 1)] mem (fun v m => v = (hereX mem) ∧ m = mem) :=
  cn_X9_here (bk_X9_here_0 (by intros; refine ⟨?_, rfl⟩; unfold hereX; split <;> first | rfl | omega) (by intros; refine ⟨?_, rfl⟩; unfold hereX; split <;> first | rfl | omega) (by intros; refine ⟨?_, rfl⟩; unfold hereX; split <;> first | rfl | omega) (by intros; refine ⟨?_, rfl⟩; unfold hereX; split <;> first | rfl | omega))
theorem c_X8_percent (mem : mmM) (x0 : Int) (g0 : R32 x0) : con 0 bX8_percent 2 [(0, x0)] mem (fun v m => v = (percS x0) ∧ m = mem) :=
  cn_X8_percent (bk_X8_percent_0 (by intros; refine ⟨?_, rfl⟩; unfold percS; repeat' split <;> omega))