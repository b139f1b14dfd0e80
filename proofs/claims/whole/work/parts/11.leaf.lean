/-! the leaves -/
def hereX (mem : mmM) : Int := if 0 ≤ mem 1 2 ∧ mem 1 2 < mem 1 1 ∧ mem 1 2 < 160 then mem 2 (mem 1 2) else 0
abbrev isLet (c : Int) : Prop := c = 97 ∨ c = 115 ∨ c = 108 ∨ c = 103 ∨ c = 99 ∨ c = 109
def withinS (z : Int) : Int := if 1000000 < z then 1000000 else if z < -1000000 then -1000000 else z
def percS (z : Int) : Int := if z < 0 then 0 else if 100 < z then 100 else z
def letS (c : Int) : Int := if c = 97 then 0 else if c = 115 then 1 else if c = 108 then 2 else if c = 103 then 3 else if c = 99 then 4 else if c = 109 then 5 else -1
theorem withinS_rng (z : Int) : R32 (withinS z) := by unfold withinS; split <;> (try split) <;> omega
theorem percS_rng (z : Int) : R32 (percS z) := by unfold percS; split <;> (try split) <;> omega
theorem letS_rng (z : Int) : R32 (letS z) := by unfold letS; repeat' split <;> omega
/-! bits -/
theorem and1_01 (z : Int) : and32 z 1 = 0 ∨ and32 z 1 = 1 := by
  unfold and32
  have h : (Int32.ofInt z &&& Int32.ofInt 1) = 0 ∨ (Int32.ofInt z &&& Int32.ofInt 1) = 1 := by
    have e : (Int32.ofInt 1).toBitVec = 1#32 := rfl
    generalize Int32.ofInt z = y
    have h2 : (y &&& Int32.ofInt 1).toBitVec = y.toBitVec &&& 1#32 := rfl
    rcases (show y.toBitVec &&& 1#32 = 0#32 ∨ y.toBitVec &&& 1#32 = 1#32 by
      have h3 := BitVec.and_one_eq_setWidth_ofBool_getLsbD (x := y.toBitVec)
      rw [h3]
      cases y.toBitVec.getLsbD 0
      · exact Or.inl rfl
      · exact Or.inr rfl) with h4 | h4
    · exact Or.inl (Int32.toBitVec_inj.mp (by rw [h2, h4]; rfl))
    · exact Or.inr (Int32.toBitVec_inj.mp (by rw [h2, h4]; rfl))
  rcases h with h | h
  · left; rw [h]; rfl
  · right; rw [h]; rfl
theorem c_X8_has (mem : mmM) (x1 : Int) (g0 : R32 x1) : con 0 bX8_has 1 [(2, 23), (0, x1)] mem (fun v m => v = (b2i (0 ≤ x1 ∧ x1 < (mem 23 1))) ∧ m = mem) :=
  cn_X8_has (bk_X8_has_0 (by intros; refine ⟨?_, rfl⟩; unfold b2i; split <;> omega) (by intros; refine ⟨?_, rfl⟩; unfold b2i; split <;> omega) (by intros; refine ⟨?_, rfl⟩; unfold b2i; split <;> omega))
theorem c_X9_isDigit (mem : mmM) (x0 : Int) (g0 : R32 x0) : con 0 bX9_isDigit 1 [(0, x0)] mem (fun v m => v = (b2i (48 ≤ x0 ∧ x0 ≤ 57)) ∧ m = mem) :=
  cn_X9_isDigit (bk_X9_isDigit_0 (by intros; refine ⟨?_, rfl⟩; unfold b2i; split <;> omega) (by intros; refine ⟨?_, rfl⟩; unfold b2i; split <;> omega) (by intros; refine ⟨?_, rfl⟩; unfold b2i; split <;> omega))
theorem c_X2_isLetter (mem : mmM) (x0 : Int) (g0 : R32 x0) : con 0 bX2_isLetter 1 [(0, x0)] mem (fun v m => v = (b2i (isLet x0)) ∧ m = mem) :=
  cn_X2_isLetter (bk_X2_isLetter_0 (by intros; refine ⟨?_, rfl⟩; unfold b2i; split <;> omega) (by intros; refine ⟨?_, rfl⟩; unfold b2i; split <;> omega) (by intros; refine ⟨?_, rfl⟩; unfold b2i; split <;> omega) (by intros; refine ⟨?_, rfl⟩; unfold b2i; split <;> omega) (by intros; refine ⟨?_, rfl⟩; unfold b2i; split <;> omega) (by intros; refine ⟨?_, rfl⟩; unfold b2i; split <;> omega) (by intros; refine ⟨?_, rfl⟩; unfold b2i; split <;> omega))
theorem c_X11_isActor (mem : mmM) (x0 : Int) (g0 : R32 x0) : con 0 bX11_isActor 1 [(0, x0)] mem (fun v m => v = (b2i (0 ≤ x0 ∧ x0 < 8)) ∧ m = mem) :=
  cn_X11_isActor (bk_X11_isActor_0 (by intros; refine ⟨?_, rfl⟩; unfold b2i; split <;> omega) (by intros; refine ⟨?_, rfl⟩; unfold b2i; split <;> omega) (by intros; refine ⟨?_, rfl⟩; unfold b2i; split <;> omega))
theorem c_X11_isMostSaid (mem : mmM) (x0 : Int) (g0 : R32 x0) : con 0 bX11_isMostSaid 1 [(0, x0)] mem (fun v m => v = (b2i (1 ≤ x0 ∧ x0 ≤ 200)) ∧ m = mem) :=
  cn_X11_isMostSaid (bk_X11_isMostSaid_0 (by intros; refine ⟨?_, rfl⟩; unfold b2i; split <;> omega) (by intros; refine ⟨?_, rfl⟩; unfold b2i; split <;> omega) (by intros; refine ⟨?_, rfl⟩; unfold b2i; split <;> omega))
theorem c_X12_in (mem : mmM) (x0 x1 x2 : Int) (g0 : R32 x0) (g1 : R32 x1) (g2 : R32 x2) : con 0 bX12_in 1 [(0, x0), (0, x1), (0, x2)] mem (fun v m => v = (b2i (x1 ≤ x0 ∧ x0 ≤ x2)) ∧ m = mem) :=
  cn_X12_in (bk_X12_in_0 (by intros; refine ⟨?_, rfl⟩; unfold b2i; split <;> omega) (by intros; refine ⟨?_, rfl⟩; unfold b2i; split <;> omega) (by intros; refine ⟨?_, rfl⟩; unfold b2i; split <;> omega))
theorem c_X12_has (mem : mmM) (x0 x1 : Int)  : con 0 bX12_has 1 [(0, x0), (0, x1)] mem (fun v m => v = (b2i (and32 (shr32 x0 x1) 1 = 1)) ∧ m = mem) :=
  cn_X12_has (bk_X12_has_0 (by intros; refine ⟨?_, rfl⟩; unfold b2i; split <;> omega) (by intros; refine ⟨?_, rfl⟩; unfold b2i; split <;> omega))
theorem c_X12_isDigit (mem : mmM) (x0 : Int) (g0 : R32 x0) : con 0 bX12_isDigit 1 [(0, x0)] mem (fun v m => v = (b2i (48 ≤ x0 ∧ x0 ≤ 57)) ∧ m = mem) :=
  cn_X12_isDigit (bk_X12_isDigit_0 (by intros; refine ⟨?_, rfl⟩; unfold b2i; split <;> omega) (by intros; refine ⟨?_, rfl⟩; unfold b2i; split <;> omega) (by intros; refine ⟨?_, rfl⟩; unfold b2i; split <;> omega))
theorem c_X12_isSign (mem : mmM) (x0 : Int) (g0 : R32 x0) : con 0 bX12_isSign 1 [(0, x0)] mem (fun v m => v = (b2i (x0 = 61 ∨ x0 = 60 ∨ x0 = 62)) ∧ m = mem) :=
  cn_X12_isSign (bk_X12_isSign_0 (by intros; refine ⟨?_, rfl⟩; unfold b2i; split <;> omega) (by intros; refine ⟨?_, rfl⟩; unfold b2i; split <;> omega) (by intros; refine ⟨?_, rfl⟩; unfold b2i; split <;> omega) (by intros; refine ⟨?_, rfl⟩; unfold b2i; split <;> omega))
theorem c_X6_isMarked (mem : mmM) (x1 : Int)  : con 0 bX6_isMarked 1 [(2, 47), (0, x1)] mem (fun v m => v = (b2i (and32 (shr32 (mem 47 0) x1) 1 = 1)) ∧ m = mem) :=
  cn_X6_isMarked (bk_X6_isMarked_0 (by intros; refine ⟨?_, rfl⟩; have h01 := and1_01 (shr32 (mem 47 0) x1); unfold b2i; split <;> omega) (by intros; refine ⟨?_, rfl⟩; have h01 := and1_01 (shr32 (mem 47 0) x1); unfold b2i; split <;> omega))
theorem c_X6_couldBe (mem : mmM) (x1 : Int)  : con 0 bX6_couldBe 1 [(2, 47), (0, x1)] mem (fun v m => v = (b2i (and32 (shr32 (mem 47 1) x1) 1 = 1)) ∧ m = mem) :=
  cn_X6_couldBe (bk_X6_couldBe_0 (by intros; refine ⟨?_, rfl⟩; have h01 := and1_01 (shr32 (mem 47 1) x1); unfold b2i; split <;> omega) (by intros; refine ⟨?_, rfl⟩; have h01 := and1_01 (shr32 (mem 47 1) x1); unfold b2i; split <;> omega))
theorem c_X2_within (mem : mmM) (x0 : Int) (g0 : R64 x0) : con 0 bX2_within 1 [(1, x0)] mem (fun v m => v = (withinS x0) ∧ m = mem) :=
  cn_X2_within (bk_X2_within_0 (by intros; refine ⟨?_, rfl⟩; unfold withinS; repeat' split <;> omega) (by intros; refine ⟨?_, rfl⟩; unfold withinS; repeat' split <;> omega) (by intros; refine ⟨?_, rfl⟩; unfold withinS; repeat' split <;> omega))
theorem c_X12_letterOf (mem : mmM) (x0 : Int) (g0 : R32 x0) : con 0 bX12_letterOf 1 [(0, x0)] mem (fun v m => v = (letS x0) ∧ m = mem) :=
  cn_X12_letterOf (bk_X12_letterOf_0 (by intros; refine ⟨?_, rfl⟩; unfold letS; repeat' split <;> omega) (by intros; refine ⟨?_, rfl⟩; unfold letS; repeat' split <;> omega) (by intros; refine ⟨?_, rfl⟩; unfold letS; repeat' split <;> omega) (by intros; refine ⟨?_, rfl⟩; unfold letS; repeat' split <;> omega) (by intros; refine ⟨?_, rfl⟩; unfold letS; repeat' split <;> omega) (by intros; refine ⟨?_, rfl⟩; unfold letS; repeat' split <;> omega) (by intros; refine ⟨?_, rfl⟩; unfold letS; repeat' split <;> omega))
theorem c_X9_here (mem : mmM)  : con 0 bX9_here 1 [(2, 1)] mem (fun v m => v = (hereX mem) ∧ m = mem) :=
  cn_X9_here (bk_X9_here_0 (by intros; refine ⟨?_, rfl⟩; unfold hereX; split <;> first | rfl | omega) (by intros; refine ⟨?_, rfl⟩; unfold hereX; split <;> first | rfl | omega) (by intros; refine ⟨?_, rfl⟩; unfold hereX; split <;> first | rfl | omega) (by intros; refine ⟨?_, rfl⟩; unfold hereX; split <;> first | rfl | omega))
theorem c_X8_percent (mem : mmM) (x0 : Int) (g0 : R32 x0) : con 0 bX8_percent 2 [(0, x0)] mem (fun v m => v = (percS x0) ∧ m = mem) :=
  cn_X8_percent (bk_X8_percent_0 (by intros; refine ⟨?_, rfl⟩; unfold percS; repeat' split <;> omega))
theorem c_X12_bounded (mem : mmM) (x0 : Int) (g0 : R64 x0) : con 0 bX12_bounded 2 [(1, x0)] mem (fun v m => v = (withinS x0) ∧ m = mem) :=
  cn_X12_bounded (bk_X12_bounded_0 (by intros; refine ⟨?_, rfl⟩; unfold withinS; repeat' split <;> omega))
theorem cn_X12_isSpeech {d : Nat} {P : Int → mmM → Prop} {mem : mmM} {x1 : Int} (h : mmT bX12_isSpeech d 0 0 (mQ 0 P) 0 [(2, 65), (0, x1)] [] mS mem) : con 0 bX12_isSpeech d [(2, 65), (0, x1)] mem P := mmC_of [(2, 65), (0, x1)] ok_X12_isSpeech.2.2.2.2 rfl (Nat.le_of_ble_eq_true rfl) h
theorem bk_X12_isSpeech_0 {d : Nat} {P : Int → mmM → Prop} {mem : mmM} {x1 : Int}
  (q1 : P (b2i (0 ≤ x1 ∧ x1 ≤ ((mem 65 27) - 1))) mem)
  (hd2 : 2 ≤ d := by omega)
  (s1 : R32 x1 := by intros; omega)
  (s2 : R32 ((mem 65 27) - 1) := by intros; omega)
  : mmT bX12_isSpeech d 0 0 (mQ 0 P) 0 [(2, 65), (0, x1)] [] mS mem := by
  refine st_iload_n (i := 1) rfl rfl dX12_isSpeech_0 ?_
  refine st_iconst dX12_isSpeech_1 ?_
  refine st_aload_n (i := 0) rfl (t := 0) rfl (by decide) dX12_isSpeech_2 ?_
  refine so_getI (v := (mem 65 27)) 65 27 fr_X12_268_11 rfl sh_65 rfl dX12_isSpeech_3 (fun r1 => ?_)
  refine st_iconst dX12_isSpeech_6 ?_
  refine st_isub dX12_isSpeech_7 ?_
  refine st_callS (kc2 := 0) (ks2 := 0) (av := [(0, x1), (0, 0), (0, ((mem 65 27) - 1))]) mr_X12_229 ok_X12_in (c_X12_in mem x1 0 ((mem 65 27) - 1) (s1) (⟨by decide, by decide⟩) (s2)) rfl rfl hd2 (Nat.le_refl 0) (Nat.le_refl 0) (Nat.le_of_ble_eq_true rfl) dX12_isSpeech_8 (mQ.elim fun v1 m1 hp => ?_)
  obtain ⟨rfl, rfl⟩ := hp
  exact st_zreturn rfl (b2i_01 _) dX12_isSpeech_11 (mQ.ret q1)
theorem cn_X12_isActor {d : Nat} {P : Int → mmM → Prop} {mem : mmM} {x0 : Int} (h : mmT bX12_isActor d 0 0 (mQ 0 P) 0 [(0, x0)] [] mS mem) : con 0 bX12_isActor d [(0, x0)] mem P := mmC_of [(0, x0)] ok_X12_isActor.2.2.2.2 rfl (Nat.le_of_ble_eq_true rfl) h
theorem bk_X12_isActor_0 {d : Nat} {P : Int → mmM → Prop} {mem : mmM} {x0 : Int}
  (q1 : P (b2i (0 ≤ x0 ∧ x0 ≤ 7)) mem)
  (hd2 : 2 ≤ d := by omega)
  (s1 : R32 x0 := by intros; omega)
  : mmT bX12_isActor d 0 0 (mQ 0 P) 0 [(0, x0)] [] mS mem := by
  refine st_iload_n (i := 0) rfl rfl dX12_isActor_0 ?_
  refine st_iconst dX12_isActor_1 ?_
  refine st_bipush rfl dX12_isActor_2 ?_
  refine st_callS (kc2 := 0) (ks2 := 0) (av := [(0, x0), (0, 0), (0, 7)]) mr_X12_229 ok_X12_in (c_X12_in mem x0 0 7 (s1) (⟨by decide, by decide⟩) (⟨by decide, by decide⟩)) rfl rfl hd2 (Nat.le_refl 0) (Nat.le_refl 0) (Nat.le_of_ble_eq_true rfl) dX12_isActor_4 (mQ.elim fun v1 m1 hp => ?_)
  obtain ⟨rfl, rfl⟩ := hp
  exact st_zreturn rfl (b2i_01 _) dX12_isActor_7 (mQ.ret q1)
theorem cn_X12_isMost {d : Nat} {P : Int → mmM → Prop} {mem : mmM} {x1 : Int} (h : mmT bX12_isMost d 0 0 (mQ 0 P) 0 [(2, 65), (0, x1)] [] mS mem) : con 0 bX12_isMost d [(2, 65), (0, x1)] mem P := mmC_of [(2, 65), (0, x1)] ok_X12_isMost.2.2.2.2 rfl (Nat.le_of_ble_eq_true rfl) h
theorem bk_X12_isMost_0 {d : Nat} {P : Int → mmM → Prop} {mem : mmM} {x1 : Int}
  (q1 : (mem 65 27) ≤ 0 → P 0 mem)
  (q2 : 0 < (mem 65 27) → ¬ (1 ≤ x1 ∧ x1 ≤ 200) → P 0 mem)
  (q3 : 0 < (mem 65 27) → (1 ≤ x1 ∧ x1 ≤ 200) → P 1 mem)
  (hd2 : 2 ≤ d := by omega)
  (s1 : 0 < (mem 65 27) → R32 x1 := by intros; omega)
  : mmT bX12_isMost d 0 0 (mQ 0 P) 0 [(2, 65), (0, x1)] [] mS mem := by
  refine st_aload_n (i := 0) rfl (t := 0) rfl (by decide) dX12_isMost_0 ?_
  refine so_getI (v := (mem 65 27)) 65 27 fr_X12_268_11 rfl sh_65 rfl dX12_isMost_1 (fun r1 => ?_)
  refine sr_if_le 22 r1 (by decide) dX12_isMost_4 (fun h1 => ?_) (fun h1 => ?_)
  · have h1 : (mem 65 27) ≤ 0 := by omega
    refine st_iconst dX12_isMost_22 ?_
    exact st_zreturn rfl (by decide) dX12_isMost_23 (mQ.ret (q1 h1))
  · have h1 : 0 < (mem 65 27) := by omega
    refine st_iload_n (i := 1) rfl rfl dX12_isMost_7 ?_
    refine st_iconst dX12_isMost_8 ?_
    refine st_sipush rfl dX12_isMost_9 ?_
    refine st_callS (kc2 := 0) (ks2 := 0) (av := [(0, x1), (0, 1), (0, 200)]) mr_X12_229 ok_X12_in (c_X12_in mem x1 1 200 ((s1 h1)) (⟨by decide, by decide⟩) (⟨by decide, by decide⟩)) rfl rfl hd2 (Nat.le_refl 0) (Nat.le_refl 0) (Nat.le_of_ble_eq_true rfl) dX12_isMost_12 (mQ.elim fun v1 m1 hp => ?_)
    obtain ⟨rfl, rfl⟩ := hp
    refine so_ifeqB 22 (by decide) dX12_isMost_15 (fun h2 => ?_) (fun h2 => ?_)
    · have h2 : ¬ (1 ≤ x1 ∧ x1 ≤ 200) := h2
      refine st_iconst dX12_isMost_22 ?_
      exact st_zreturn rfl (by decide) dX12_isMost_23 (mQ.ret (q2 h1 h2))
    · have h2 : (1 ≤ x1 ∧ x1 ≤ 200) := h2
      refine st_iconst dX12_isMost_18 ?_
      refine st_goto 23 (by decide) dX12_isMost_19 ?_
      exact st_zreturn rfl (by decide) dX12_isMost_23 (mQ.ret (q3 h1 h2))
theorem c_X12_isSpeech (mem : mmM) (x1 : Int) (g0 : R32 x1) (g1 : R32 ((mem 65 27) - 1)) : con 0 bX12_isSpeech 2 [(2, 65), (0, x1)] mem (fun v m => v = (b2i (0 ≤ x1 ∧ x1 ≤ (mem 65 27) - 1)) ∧ m = mem) :=
  cn_X12_isSpeech (bk_X12_isSpeech_0 (by intros; refine ⟨?_, rfl⟩; unfold b2i; split <;> omega))
theorem c_X12_isActor (mem : mmM) (x0 : Int) (g0 : R32 x0) : con 0 bX12_isActor 2 [(0, x0)] mem (fun v m => v = (b2i (0 ≤ x0 ∧ x0 ≤ 7)) ∧ m = mem) :=
  cn_X12_isActor (bk_X12_isActor_0 (by intros; refine ⟨?_, rfl⟩; unfold b2i; split <;> omega))
theorem c_X12_isMost (mem : mmM) (x1 : Int) (g0 : R32 x1) : con 0 bX12_isMost 2 [(2, 65), (0, x1)] mem (fun v m => v = (b2i (0 < (mem 65 27) ∧ 1 ≤ x1 ∧ x1 ≤ 200)) ∧ m = mem) :=
  cn_X12_isMost (bk_X12_isMost_0 (by intros; refine ⟨?_, rfl⟩; unfold b2i; split <;> omega) (by intros; refine ⟨?_, rfl⟩; unfold b2i; split <;> omega) (by intros; refine ⟨?_, rfl⟩; unfold b2i; split <;> omega))
