/-! the model reads a law's signs -/
def putOK (m : mmM) : Prop := (0 ≤ m 65 14 ∧ m 65 14 < 5) ∧ (0 ≤ m 69 (m 65 14) ∧ m 69 (m 65 14) < 340)
def opOK (m : mmM) : Prop := (0 ≤ m 65 5 ∧ m 65 5 ≤ 20) ∧ (0 ≤ m 65 3 ∧ m 65 3 ≤ 300)
def clOK (m : mmM) : Prop := (m 65 4 = -1 → bytM m) ∧ (0 ≤ m 65 5 ∧ m 65 5 ≤ 20) ∧ (0 ≤ m 65 3 ∧ m 65 3 ≤ 300)
def putM (m : mmM) (c v : Int) : mmM := mset (mset (mset m 67 (340 * m 65 14 + m 69 (m 65 14)) c) 68 (340 * m 65 14 + m 69 (m 65 14)) v) 69 (m 65 14) (m 69 (m 65 14) + 1)
def stepM (m : mmM) (k : Int) : mmM := mset (mset m 65 5 (m 65 5 + k)) 65 3 (m 65 3 + 1)
def opensM (m : mmM) : mmM := if m 65 5 = 6 then stepM (badM m) 1 else stepM m 1
def backM1 (m : mmM) : mmM := mset (mset m 65 3 (m 65 3 + 1)) 65 5 (m 65 5 - 1)
def closM (m : mmM) (c : Int) : mmM := if m 65 4 = -1 then (if hereM (lookM m) = c then backM1 (lookM m) else backM1 (badM (lookM m))) else backM1 m
theorem cn_X12_put {d : Nat} {P : mmM → Prop} {mem : mmM} {x1 x2 : Int} (h : mmT bX12_put d 0 0 (mQv P) 0 [(2, 65), (0, x1), (0, x2)] [] mS mem) : conv bX12_put d [(2, 65), (0, x1), (0, x2)] mem P := mmC_of [(2, 65), (0, x1), (0, x2)] ok_X12_put.2.2.2.2 rfl (Nat.le_of_ble_eq_true rfl) h
theorem bk_X12_put_0 {d : Nat} {P : mmM → Prop} {mem : mmM} {x1 x2 : Int}
  (q1 : P (mset (mset (mset mem 67 ((340 * (mem 65 14)) + (mem 69 (mem 65 14))) x1) 68 ((340 * (mem 65 14)) + (mem 69 (mem 65 14))) x2) 69 (mem 65 14) ((mem 69 (mem 65 14)) + 1)))
  (s1 : 0 ≤ (mem 65 14) ∧ (mem 65 14) < 5 := by intros; first | omega | assumption | solve_by_elim)
  (s2 : 0 ≤ ((340 * (mem 65 14)) + (mem 69 (mem 65 14))) ∧ ((340 * (mem 65 14)) + (mem 69 (mem 65 14))) < 1700 := by intros; first | omega | assumption | solve_by_elim)
  (s3 : R32 x1 := by intros; first | omega | assumption | solve_by_elim)
  (s4 : R32 x2 := by intros; first | omega | assumption | solve_by_elim)
  (s5 : R32 ((mem 69 (mem 65 14)) + 1) := by intros; first | omega | assumption | solve_by_elim)
  : mmT bX12_put d 0 0 (mQv P) 0 [(2, 65), (0, x1), (0, x2)] [] mS mem := by
  refine st_aload_n (i := 0) rfl (t := 0) rfl (by decide) dX12_put_0 ?_
  refine so_getA 65 6 fr_X12_13_11 rfl sh_65 fx_65_6 dX12_put_1 ?_
  refine st_sipush rfl dX12_put_4 ?_
  refine st_aload_n (i := 0) rfl (t := 0) rfl (by decide) dX12_put_7 ?_
  refine so_getI (v := (mem 65 14)) 65 14 fr_X12_134_11 rfl sh_65 rfl dX12_put_8 (fun r1 => ?_)
  refine st_imul dX12_put_11 ?_
  refine st_aload_n (i := 0) rfl (t := 0) rfl (by decide) dX12_put_12 ?_
  refine so_getA 65 8 fr_X12_19_11 rfl sh_65 fx_65_8 dX12_put_13 ?_
  refine st_aload_n (i := 0) rfl (t := 0) rfl (by decide) dX12_put_16 ?_
  refine so_getI (v := (mem 65 14)) 65 14 fr_X12_134_11 rfl sh_65 rfl dX12_put_17 (fun r2 => ?_)
  refine so_iald (v := (mem 69 (mem 65 14))) 69 rfl sh_69 (by decide) s1 rfl dX12_put_20 (fun r3 => ?_)
  refine st_iadd dX12_put_21 ?_
  refine st_iload_n (i := 1) rfl rfl dX12_put_22 ?_
  refine so_iast 67 fr_67 rfl sh_67 (by decide) s2 s3 dX12_put_23 ?_
  refine st_aload_n (i := 0) rfl (t := 0) rfl (by decide) dX12_put_24 ?_
  refine so_getA 65 7 fr_X12_16_11 rfl sh_65 fx_65_7 dX12_put_25 ?_
  refine st_sipush rfl dX12_put_28 ?_
  refine st_aload_n (i := 0) rfl (t := 0) rfl (by decide) dX12_put_31 ?_
  refine so_getI (v := (mem 65 14)) 65 14 fr_X12_134_11 rfl sh_65 rfl dX12_put_32 (fun r4 => ?_)
  refine st_imul dX12_put_35 ?_
  refine st_aload_n (i := 0) rfl (t := 0) rfl (by decide) dX12_put_36 ?_
  refine so_getA 65 8 fr_X12_19_11 rfl sh_65 fx_65_8 dX12_put_37 ?_
  refine st_aload_n (i := 0) rfl (t := 0) rfl (by decide) dX12_put_40 ?_
  refine so_getI (v := (mem 65 14)) 65 14 fr_X12_134_11 rfl sh_65 rfl dX12_put_41 (fun r5 => ?_)
  refine so_iald (v := (mem 69 (mem 65 14))) 69 rfl sh_69 (by decide) s1 rfl dX12_put_44 (fun r6 => ?_)
  refine st_iadd dX12_put_45 ?_
  refine st_iload_n (i := 2) rfl rfl dX12_put_46 ?_
  refine so_iast 68 fr_68 rfl sh_68 (by decide) s2 s4 dX12_put_47 ?_
  refine st_aload_n (i := 0) rfl (t := 0) rfl (by decide) dX12_put_48 ?_
  refine so_getA 65 8 fr_X12_19_11 rfl sh_65 fx_65_8 dX12_put_49 ?_
  refine st_aload_n (i := 0) rfl (t := 0) rfl (by decide) dX12_put_52 ?_
  refine so_getI (v := (mem 65 14)) 65 14 fr_X12_134_11 rfl sh_65 rfl dX12_put_53 (fun r7 => ?_)
  refine st_dup2 (Nat.ne_of_beq_eq_false rfl) (Nat.ne_of_beq_eq_false rfl) dX12_put_56 ?_
  refine so_iald (v := (mem 69 (mem 65 14))) 69 rfl sh_69 (by decide) s1 rfl dX12_put_57 (fun r8 => ?_)
  refine st_iconst dX12_put_58 ?_
  refine st_iadd dX12_put_59 ?_
  refine so_iast 69 fr_69 rfl sh_69 (by decide) s1 s5 dX12_put_60 ?_
  exact st_return rfl dX12_put_61 (mQv.ret q1)
theorem c_X12_put (mem : mmM) (x y : Int) (h1 : R32 x) (h2 : R32 y) (h : putOK mem) : conv bX12_put 0 [(2, 65), (0, x), (0, y)] mem (fun m => m = putM mem x y) := by
  obtain ⟨a, b⟩ := h
  exact cn_X12_put (bk_X12_put_0 rfl (s1 := a) (s2 := by omega) (s3 := h1) (s4 := h2) (s5 := ⟨by omega, by omega⟩))
theorem cn_X12_opens {d : Nat} {P : mmM → Prop} {mem : mmM} (h : mmT bX12_opens d 0 0 (mQv P) 0 [(2, 65)] [] mS mem) : conv bX12_opens d [(2, 65)] mem P := mmC_of [(2, 65)] ok_X12_opens.2.2.2.2 rfl (Nat.le_of_ble_eq_true rfl) h
theorem bk_X12_opens_0 {d : Nat} {P : mmM → Prop} {mem : mmM}
  (q1 : ¬ (mem 65 5) = 6 → P (mset (mset mem 65 5 ((mem 65 5) + 1)) 65 3 ((mem 65 3) + 1)))
  (q2 : (mem 65 5) = 6 → P (mset (mset (badM mem) 65 5 (((badM mem) 65 5) + 1)) 65 3 (((badM mem) 65 3) + 1)))
  (hd1 : 1 ≤ d := by omega)
  (s1 : ¬ (mem 65 5) = 6 → R32 ((mem 65 5) + 1) := by intros; first | omega | assumption | solve_by_elim)
  (s2 : ¬ (mem 65 5) = 6 → R32 ((mem 65 3) + 1) := by intros; first | omega | assumption | solve_by_elim)
  (s3 : (mem 65 5) = 6 → R32 (((badM mem) 65 5) + 1) := by intros; first | omega | assumption | solve_by_elim)
  (s4 : (mem 65 5) = 6 → R32 (((badM mem) 65 3) + 1) := by intros; first | omega | assumption | solve_by_elim)
  : mmT bX12_opens d 0 0 (mQv P) 0 [(2, 65)] [] mS mem := by
  refine st_aload_n (i := 0) rfl (t := 0) rfl (by decide) dX12_opens_0 ?_
  refine so_getI (v := (mem 65 5)) 65 5 fr_X12_137_11 rfl sh_65 rfl dX12_opens_1 (fun r1 => ?_)
  refine st_bipush rfl dX12_opens_4 ?_
  refine sr_icmp_ne 13 r1 ⟨by decide, by decide⟩ (by decide) dX12_opens_6 (fun h1 => ?_) (fun h1 => ?_)
  · have h1 : ¬ (mem 65 5) = 6 := by omega
    refine st_aload_n (i := 0) rfl (t := 0) rfl (by decide) dX12_opens_13 ?_
    refine st_dup (Nat.ne_of_beq_eq_false rfl) dX12_opens_14 ?_
    refine so_getI (v := (mem 65 5)) 65 5 fr_X12_137_11 rfl sh_65 rfl dX12_opens_15 (fun r2 => ?_)
    refine st_iconst dX12_opens_18 ?_
    refine st_iadd dX12_opens_19 ?_
    refine so_putI 65 5 fr_X12_137_11 pf_11_5 fo_65_5 rfl sh_65 (s1 h1) dX12_opens_20 ?_
    refine st_aload_n (i := 0) rfl (t := 0) rfl (by decide) dX12_opens_23 ?_
    refine st_dup (Nat.ne_of_beq_eq_false rfl) dX12_opens_24 ?_
    refine so_getI (v := (mem 65 3)) 65 3 fr_X12_124_11 rfl sh_65 rfl dX12_opens_25 (fun r3 => ?_)
    refine st_iconst dX12_opens_28 ?_
    refine st_iadd dX12_opens_29 ?_
    refine so_putI 65 3 fr_X12_124_11 pf_11_3 fo_65_3 rfl sh_65 (s2 h1) dX12_opens_30 ?_
    exact st_return rfl dX12_opens_33 (mQv.ret (q1 h1))
  · have h1 : (mem 65 5) = 6 := by omega
    refine st_aload_n (i := 0) rfl (t := 0) rfl (by decide) dX12_opens_9 ?_
    refine st_callV (kc2 := 0) (ks2 := 0) (av := []) 65 11 mr_X12_140 ok_X12_bad (c_X12_bad mem ) rfl sh_65 ⟨_, rfl, rfl, by decide⟩ rfl rfl hd1 (Nat.le_refl 0) (Nat.le_refl 0) (Nat.le_of_ble_eq_true rfl) dX12_opens_10 (mQv.elim fun m1 hp => ?_)
    have hp := hp.symm
    subst hp
    refine st_aload_n (i := 0) rfl (t := 0) rfl (by decide) dX12_opens_13 ?_
    refine st_dup (Nat.ne_of_beq_eq_false rfl) dX12_opens_14 ?_
    refine so_getI (v := ((badM mem) 65 5)) 65 5 fr_X12_137_11 rfl sh_65 rfl dX12_opens_15 (fun r4 => ?_)
    refine st_iconst dX12_opens_18 ?_
    refine st_iadd dX12_opens_19 ?_
    refine so_putI 65 5 fr_X12_137_11 pf_11_5 fo_65_5 rfl sh_65 (s3 h1) dX12_opens_20 ?_
    refine st_aload_n (i := 0) rfl (t := 0) rfl (by decide) dX12_opens_23 ?_
    refine st_dup (Nat.ne_of_beq_eq_false rfl) dX12_opens_24 ?_
    refine so_getI (v := ((badM mem) 65 3)) 65 3 fr_X12_124_11 rfl sh_65 rfl dX12_opens_25 (fun r5 => ?_)
    refine st_iconst dX12_opens_28 ?_
    refine st_iadd dX12_opens_29 ?_
    refine so_putI 65 3 fr_X12_124_11 pf_11_3 fo_65_3 rfl sh_65 (s4 h1) dX12_opens_30 ?_
    exact st_return rfl dX12_opens_33 (mQv.ret (q2 h1))
theorem badM_65 (m : mmM) {k : Int} (h : k ≠ 4) : badM m 65 k = m 65 k := by
  unfold badM
  rw [mset_at, if_neg h]
theorem c_X12_opens (mem : mmM) (h : opOK mem) : conv bX12_opens 1 [(2, 65)] mem (fun m => m = opensM mem) := by
  obtain ⟨a, b⟩ := h
  refine cn_X12_opens (bk_X12_opens_0 (fun g => ?_) (fun g => ?_) (s1 := fun _ => ⟨by omega, by omega⟩) (s2 := fun _ => ⟨by omega, by omega⟩) (s3 := fun _ => ?_) (s4 := fun _ => ?_))
  · unfold opensM
    rw [if_neg g]
    rfl
  · unfold opensM
    rw [if_pos g]
    rfl
  · rw [badM_65 _ (by decide)]
    exact ⟨by omega, by omega⟩
  · rw [badM_65 _ (by decide)]
    exact ⟨by omega, by omega⟩
theorem cn_X12_closes {d : Nat} {P : mmM → Prop} {mem : mmM} {x1 : Int} (h : mmT bX12_closes d 0 0 (mQv P) 0 [(2, 65), (0, x1)] [] mS mem) : conv bX12_closes d [(2, 65), (0, x1)] mem P := mmC_of [(2, 65), (0, x1)] ok_X12_closes.2.2.2.2 rfl (Nat.le_of_ble_eq_true rfl) h
theorem bk_X12_closes_0 {d : Nat} {P : mmM → Prop} {mem : mmM} {x1 : Int}
  (q1 : ¬ (mem 65 4) = (-1) → P (mset (mset mem 65 3 ((mem 65 3) + 1)) 65 5 ((mem 65 5) - 1)))
  (q2 : (mem 65 4) = (-1) → (hereM (lookM mem)) = x1 → P (mset (mset (lookM mem) 65 3 (((lookM mem) 65 3) + 1)) 65 5 (((lookM mem) 65 5) - 1)))
  (q3 : (mem 65 4) = (-1) → ¬ (hereM (lookM mem)) = x1 → P (mset (mset (badM (lookM mem)) 65 3 (((badM (lookM mem)) 65 3) + 1)) 65 5 (((badM (lookM mem)) 65 5) - 1)))
  (hd1 : 1 ≤ d := by omega)
  (hd2 : 2 ≤ d := by omega)
  (s1 : ¬ (mem 65 4) = (-1) → R32 ((mem 65 3) + 1) := by intros; first | omega | assumption | solve_by_elim)
  (s2 : ¬ (mem 65 4) = (-1) → R32 ((mem 65 5) - 1) := by intros; first | omega | assumption | solve_by_elim)
  (s3 : (mem 65 4) = (-1) → bytM mem := by intros; first | omega | assumption | solve_by_elim)
  (s4 : (mem 65 4) = (-1) → 0 ≤ (mem 65 3) := by intros; first | omega | assumption | solve_by_elim)
  (s5 : (mem 65 4) = (-1) → R32 x1 := by intros; first | omega | assumption | solve_by_elim)
  (s6 : (mem 65 4) = (-1) → (hereM (lookM mem)) = x1 → R32 (((lookM mem) 65 3) + 1) := by intros; first | omega | assumption | solve_by_elim)
  (s7 : (mem 65 4) = (-1) → (hereM (lookM mem)) = x1 → R32 (((lookM mem) 65 5) - 1) := by intros; first | omega | assumption | solve_by_elim)
  (s8 : (mem 65 4) = (-1) → ¬ (hereM (lookM mem)) = x1 → R32 (((badM (lookM mem)) 65 3) + 1) := by intros; first | omega | assumption | solve_by_elim)
  (s9 : (mem 65 4) = (-1) → ¬ (hereM (lookM mem)) = x1 → R32 (((badM (lookM mem)) 65 5) - 1) := by intros; first | omega | assumption | solve_by_elim)
  : mmT bX12_closes d 0 0 (mQv P) 0 [(2, 65), (0, x1)] [] mS mem := by
  refine st_aload_n (i := 0) rfl (t := 0) rfl (by decide) dX12_closes_0 ?_
  refine so_getI (v := (mem 65 4)) 65 4 fr_X12_131_11 rfl sh_65 rfl dX12_closes_1 (fun r1 => ?_)
  refine st_iconst dX12_closes_4 ?_
  refine sr_icmp_ne 20 r1 ⟨by decide, by decide⟩ (by decide) dX12_closes_5 (fun h1 => ?_) (fun h1 => ?_)
  · have h1 : ¬ (mem 65 4) = (-1) := by omega
    refine st_aload_n (i := 0) rfl (t := 0) rfl (by decide) dX12_closes_20 ?_
    refine st_dup (Nat.ne_of_beq_eq_false rfl) dX12_closes_21 ?_
    refine so_getI (v := (mem 65 3)) 65 3 fr_X12_124_11 rfl sh_65 rfl dX12_closes_22 (fun r2 => ?_)
    refine st_iconst dX12_closes_25 ?_
    refine st_iadd dX12_closes_26 ?_
    refine so_putI 65 3 fr_X12_124_11 pf_11_3 fo_65_3 rfl sh_65 (s1 h1) dX12_closes_27 ?_
    refine st_aload_n (i := 0) rfl (t := 0) rfl (by decide) dX12_closes_30 ?_
    refine st_dup (Nat.ne_of_beq_eq_false rfl) dX12_closes_31 ?_
    refine so_getI (v := (mem 65 5)) 65 5 fr_X12_137_11 rfl sh_65 rfl dX12_closes_32 (fun r3 => ?_)
    refine st_iconst dX12_closes_35 ?_
    refine st_isub dX12_closes_36 ?_
    refine so_putI 65 5 fr_X12_137_11 pf_11_5 fo_65_5 rfl sh_65 (s2 h1) dX12_closes_37 ?_
    exact st_return rfl dX12_closes_40 (mQv.ret (q1 h1))
  · have h1 : (mem 65 4) = (-1) := by omega
    refine st_aload_n (i := 0) rfl (t := 0) rfl (by decide) dX12_closes_8 ?_
    refine st_callV (kc2 := 0) (ks2 := 0) (av := []) 65 11 mr_X12_143 ok_X12_look (c_X12_look mem ((s3 h1)) ((s4 h1))) rfl sh_65 ⟨_, rfl, rfl, by decide⟩ rfl rfl hd2 (Nat.le_refl 0) (Nat.le_refl 0) (Nat.le_of_ble_eq_true rfl) dX12_closes_9 (mQ.elim fun v1 m1 hp => ?_)
    obtain ⟨hpv, hpm⟩ := hp
    subst hpv
    have hpm := hpm.symm
    subst hpm
    refine st_iload_n (i := 1) rfl rfl dX12_closes_12 ?_
    refine sr_icmp_eq 20 (lookM_rng mem ((s3 h1)) ((s4 h1))) (s5 h1) (by decide) dX12_closes_13 (fun h2 => ?_) (fun h2 => ?_)
    · have h2 : (hereM (lookM mem)) = x1 := by omega
      refine st_aload_n (i := 0) rfl (t := 0) rfl (by decide) dX12_closes_20 ?_
      refine st_dup (Nat.ne_of_beq_eq_false rfl) dX12_closes_21 ?_
      refine so_getI (v := ((lookM mem) 65 3)) 65 3 fr_X12_124_11 rfl sh_65 rfl dX12_closes_22 (fun r4 => ?_)
      refine st_iconst dX12_closes_25 ?_
      refine st_iadd dX12_closes_26 ?_
      refine so_putI 65 3 fr_X12_124_11 pf_11_3 fo_65_3 rfl sh_65 (s6 h1 h2) dX12_closes_27 ?_
      refine st_aload_n (i := 0) rfl (t := 0) rfl (by decide) dX12_closes_30 ?_
      refine st_dup (Nat.ne_of_beq_eq_false rfl) dX12_closes_31 ?_
      refine so_getI (v := ((lookM mem) 65 5)) 65 5 fr_X12_137_11 rfl sh_65 rfl dX12_closes_32 (fun r5 => ?_)
      refine st_iconst dX12_closes_35 ?_
      refine st_isub dX12_closes_36 ?_
      refine so_putI 65 5 fr_X12_137_11 pf_11_5 fo_65_5 rfl sh_65 (s7 h1 h2) dX12_closes_37 ?_
      exact st_return rfl dX12_closes_40 (mQv.ret (q2 h1 h2))
    · have h2 : ¬ (hereM (lookM mem)) = x1 := by omega
      refine st_aload_n (i := 0) rfl (t := 0) rfl (by decide) dX12_closes_16 ?_
      refine st_callV (kc2 := 0) (ks2 := 0) (av := []) 65 11 mr_X12_140 ok_X12_bad (c_X12_bad (lookM mem) ) rfl sh_65 ⟨_, rfl, rfl, by decide⟩ rfl rfl hd1 (Nat.le_refl 0) (Nat.le_refl 0) (Nat.le_of_ble_eq_true rfl) dX12_closes_17 (mQv.elim fun m2 hp => ?_)
      have hp := hp.symm
      subst hp
      refine st_aload_n (i := 0) rfl (t := 0) rfl (by decide) dX12_closes_20 ?_
      refine st_dup (Nat.ne_of_beq_eq_false rfl) dX12_closes_21 ?_
      refine so_getI (v := ((badM (lookM mem)) 65 3)) 65 3 fr_X12_124_11 rfl sh_65 rfl dX12_closes_22 (fun r6 => ?_)
      refine st_iconst dX12_closes_25 ?_
      refine st_iadd dX12_closes_26 ?_
      refine so_putI 65 3 fr_X12_124_11 pf_11_3 fo_65_3 rfl sh_65 (s8 h1 h2) dX12_closes_27 ?_
      refine st_aload_n (i := 0) rfl (t := 0) rfl (by decide) dX12_closes_30 ?_
      refine st_dup (Nat.ne_of_beq_eq_false rfl) dX12_closes_31 ?_
      refine so_getI (v := ((badM (lookM mem)) 65 5)) 65 5 fr_X12_137_11 rfl sh_65 rfl dX12_closes_32 (fun r7 => ?_)
      refine st_iconst dX12_closes_35 ?_
      refine st_isub dX12_closes_36 ?_
      refine so_putI 65 5 fr_X12_137_11 pf_11_5 fo_65_5 rfl sh_65 (s9 h1 h2) dX12_closes_37 ?_
      exact st_return rfl dX12_closes_40 (mQv.ret (q3 h1 h2))
theorem lookM_65 (m : mmM) {k : Int} (h : k ≠ 3) : lookM m 65 k = m 65 k := cuM_65 _ _ h
theorem lookM_3 (m : mmM) : lookM m 65 3 = SM m (m 65 3) := cuM_at _ _
theorem c_X12_closes (mem : mmM) (x : Int) (hx : R32 x) (h : clOK mem) : conv bX12_closes 2 [(2, 65), (0, x)] mem (fun m => m = closM mem x) := by
  obtain ⟨e, a, b⟩ := h
  have ge := SM_ge mem (mem 65 3)
  have bnd : mem 65 4 = -1 → SM mem (mem 65 3) ≤ 300 := by
    intro z
    have hb := (e z).1
    by_cases q : mem 65 3 ≤ mem 65 2
    · have := SM_le (m := mem) (i := mem 65 3) q
      omega
    · have : SM mem (mem 65 3) = mem 65 3 := skT_end (by omega)
      omega
  refine cn_X12_closes (bk_X12_closes_0 (fun g => ?_) (fun g g2 => ?_) (fun g g2 => ?_) (s1 := fun _ => ⟨by omega, by omega⟩) (s2 := fun _ => ⟨by omega, by omega⟩) (s3 := fun g => e g) (s4 := fun _ => by omega) (s5 := fun _ => hx) (s6 := fun g _ => ?_) (s7 := fun _ _ => ?_) (s8 := fun g _ => ?_) (s9 := fun _ _ => ?_))
  · unfold closM
    rw [if_neg g]
    rfl
  · unfold closM
    rw [if_pos g, if_pos g2]
    rfl
  · unfold closM
    rw [if_pos g, if_neg g2]
    rfl
  · have := bnd g
    rw [lookM_3]
    exact ⟨by omega, by omega⟩
  · rw [lookM_65 _ (by decide)]
    exact ⟨by omega, by omega⟩
  · have := bnd g
    rw [badM_65 _ (by decide), lookM_3]
    exact ⟨by omega, by omega⟩
  · rw [badM_65 _ (by decide), lookM_65 _ (by decide)]
    exact ⟨by omega, by omega⟩
/-- what reading a law leaves alone -/
def lmFr (mem m : mmM) : Prop := (∀ a, a ≠ 65 → a ≠ 67 → a ≠ 68 → a ≠ 69 → m a = mem a) ∧ (∀ j, j ≠ 3 → j ≠ 4 → j ≠ 5 → m 65 j = mem 65 j) ∧ (∀ k, k ≠ mem 65 14 → m 69 k = mem 69 k) ∧ ∀ i, (i < 340 * mem 65 14 ∨ 340 * mem 65 14 + 340 ≤ i) → m 67 i = mem 67 i ∧ m 68 i = mem 68 i
theorem lmFr_14 {mem m : mmM} (h : lmFr mem m) : m 65 14 = mem 65 14 := h.2.1 14 (by decide) (by decide) (by decide)
theorem lmFr_refl (mem : mmM) : lmFr mem mem := ⟨fun _ _ _ _ _ => rfl, fun _ _ _ _ => rfl, fun _ _ => rfl, fun _ _ => ⟨rfl, rfl⟩⟩
theorem lmFr_trans {a b c : mmM} (h : lmFr a b) (h' : lmFr b c) : lmFr a c := by
  have e := lmFr_14 h
  obtain ⟨h1, h2, h3, h4⟩ := h'
  rw [e] at h3 h4
  exact ⟨fun x x1 x2 x3 x4 => (h1 x x1 x2 x3 x4).trans (h.1 x x1 x2 x3 x4), fun j j1 j2 j3 => (h2 j j1 j2 j3).trans (h.2.1 j j1 j2 j3), fun k hk => (h3 k hk).trans (h.2.2.1 k hk), fun i hi => ⟨(h4 i hi).1.trans (h.2.2.2 i hi).1, (h4 i hi).2.trans (h.2.2.2 i hi).2⟩⟩
theorem lmFr_65 (mem : mmM) {k v : Int} (h : k = 3 ∨ k = 4 ∨ k = 5) : lmFr mem (mset mem 65 k v) := ⟨fun _ x1 _ _ _ => mset_ne x1, fun j j1 j2 j3 => by rw [mset_at, if_neg (by omega)], fun _ _ => by rw [mset_ne (by decide)], fun _ _ => ⟨by rw [mset_ne (by decide)], by rw [mset_ne (by decide)]⟩⟩
theorem lmFr_cu (mem : mmM) (j : Int) : lmFr mem (cuM mem j) := lmFr_65 mem (Or.inl rfl)
theorem lmFr_bad (mem : mmM) : lmFr mem (badM mem) := lmFr_65 mem (Or.inr (Or.inl rfl))
theorem putM_69 (m : mmM) (c v : Int) : putM m c v 69 = updF (m 69) (m 65 14) (m 69 (m 65 14) + 1) := by
  unfold putM
  rw [mset_updF, mset_ne (by decide), mset_ne (by decide)]
theorem putM_67 (m : mmM) (c v : Int) : putM m c v 67 = updF (m 67) (340 * m 65 14 + m 69 (m 65 14)) c := by
  unfold putM
  rw [mset_ne (by decide), mset_ne (by decide), mset_updF]
theorem putM_68 (m : mmM) (c v : Int) : putM m c v 68 = updF (m 68) (340 * m 65 14 + m 69 (m 65 14)) v := by
  unfold putM
  rw [mset_ne (by decide), mset_updF, mset_ne (by decide)]
theorem putM_65 (m : mmM) (c v : Int) : putM m c v 65 = m 65 := by
  unfold putM
  rw [mset_ne (by decide), mset_ne (by decide), mset_ne (by decide)]
theorem putM_ne (m : mmM) (c v : Int) {a : Nat} (h1 : a ≠ 67) (h2 : a ≠ 68) (h3 : a ≠ 69) : putM m c v a = m a := by
  unfold putM
  rw [mset_ne h3, mset_ne h2, mset_ne h1]
theorem lmFr_put {m : mmM} (c v : Int) (h : putOK m) : lmFr m (putM m c v) := by
  obtain ⟨a, b⟩ := h
  refine ⟨fun x _ x2 x3 x4 => putM_ne _ _ _ x2 x3 x4, fun _ _ _ _ => by rw [putM_65], fun k hk => by rw [putM_69, updF_ne hk], fun i hi => ⟨by rw [putM_67, updF_ne (by omega)], by rw [putM_68, updF_ne (by omega)]⟩⟩
theorem lmFr_2 {mem m : mmM} (h : lmFr mem m) : m 65 2 = mem 65 2 := h.2.1 2 (by decide) (by decide) (by decide)
theorem lmFr_66 {mem m : mmM} (h : lmFr mem m) : m 66 = mem 66 := h.1 66 (by decide) (by decide) (by decide) (by decide)
theorem lmFr_C {mem m : mmM} (h : lmFr mem m) : CM m = CM mem := by
  unfold CM
  rw [lmFr_2 h, lmFr_66 h]
theorem lmFr_S {mem m : mmM} (h : lmFr mem m) : SM m = SM mem := by
  unfold SM
  rw [lmFr_2 h, lmFr_66 h]
theorem lmFr_B {mem m : mmM} (h : lmFr mem m) (hb : bytM mem) : bytM m := by
  unfold bytM
  rw [lmFr_2 h, lmFr_66 h]
  exact hb
def codM (m : mmM) : Int := m 69 (m 65 14)
/-- where a reading begins -/
def preM (m : mmM) : Prop := bytM m ∧ m 65 4 = -1 ∧ (0 ≤ m 65 3 ∧ m 65 3 ≤ m 65 2) ∧ (0 ≤ m 65 14 ∧ m 65 14 < 5) ∧ (0 ≤ codM m ∧ codM m ≤ m 65 3) ∧ 0 ≤ m 65 5 ∧ m 65 5 ≤ 6
/-- something was wrong at f; k more signs may still be put -/
def failM (mem : mmM) (f k : Int) (m : mmM) : Prop := m 65 4 = f ∧ 0 ≤ f ∧ lmFr mem m ∧ (mem 65 3 ≤ m 65 3 ∧ m 65 3 ≤ mem 65 2 + 8 - mem 65 5) ∧ (0 ≤ codM m ∧ codM m + k ≤ codM mem + (m 65 3 - mem 65 3)) ∧ mem 65 5 ≤ m 65 5 ∧ m 65 5 ≤ mem 65 5 + 1
def doneM (mem : mmM) (q : Int) (ts : List tokT) (m : mmM) : Prop := m 65 4 = -1 ∧ lmFr mem m ∧ m 65 3 = q ∧ m 65 5 = mem 65 5 ∧ codM m = codM mem + ts.length ∧ tokR (m 67) (m 68) (340 * mem 65 14 + codM mem) ts ∧ ∀ i, i < 340 * mem 65 14 + codM mem → m 67 i = mem 67 i ∧ m 68 i = mem 68 i
def resM (mem : mmM) : PR → mmM → Prop
  | .inl f, m => failM mem f 0 m
  | .inr (q, ts), m => doneM mem q ts m
theorem tokR_app {c v : Int → Int} : ∀ (ts us : List tokT) (p : Int), tokR c v p ts → tokR c v (p + ts.length) us → tokR c v p (ts ++ us) := by
  intro ts
  induction ts with
  | nil =>
    intro us p _ h
    have e : p + (([] : List tokT).length : Int) = p := by show p + ((0 : Nat) : Int) = p; omega
    rw [e] at h
    exact h
  | cons t r ih =>
    intro us p h h'
    have e : p + ((t :: r).length : Int) = p + 1 + (r.length : Int) := by
      show p + ((r.length + 1 : Nat) : Int) = _
      omega
    rw [e] at h'
    exact ⟨h.1, h.2.1, ih us (p + 1) h.2.2 h'⟩
theorem tokR_congr {c v c' v' : Int → Int} : ∀ (ts : List tokT) (p : Int), (∀ i, p ≤ i → i < p + ts.length → c i = c' i ∧ v i = v' i) → tokR c v p ts → tokR c' v' p ts := by
  intro ts
  induction ts with
  | nil => exact fun _ _ _ => trivial
  | cons t r ih =>
    intro p h h'
    have e : ((t :: r).length : Int) = (r.length : Int) + 1 := by
      show ((r.length + 1 : Nat) : Int) = _
      omega
    have h0 := h p (Int.le_refl _) (by omega)
    obtain ⟨a, b, w⟩ := h'
    exact ⟨h0.1.symm.trans a, fun z => h0.2.symm.trans (b z), ih (p + 1) (fun i i0 i1 => h i (by omega) (by omega)) w⟩
theorem doneM_nil (mem : mmM) (hw : mem 65 4 = -1) : doneM mem (mem 65 3) [] mem := ⟨hw, lmFr_refl mem, rfl, rfl, by show _ = _ + ((0 : Nat) : Int); omega, trivial, fun _ _ => ⟨rfl, rfl⟩⟩
theorem doneM_cu {mem m : mmM} {j : Int} {ts : List tokT} (h : doneM mem j ts m) (q : Int) : doneM mem q ts (cuM m q) := by
  obtain ⟨a1, a2, a3, a4, a5, a6, a7⟩ := h
  refine ⟨by rw [cuM_65 _ _ (by decide)]; exact a1, lmFr_trans a2 (lmFr_cu m q), cuM_at _ _, by rw [cuM_65 _ _ (by decide)]; exact a4, ?_, ?_, ?_⟩
  · unfold codM
    rw [cuM_65 _ _ (by decide), cuM_ne _ _ (by decide)]
    exact a5
  · rw [cuM_ne _ _ (by decide), cuM_ne _ _ (by decide)]
    exact a6
  · rw [cuM_ne _ _ (by decide), cuM_ne _ _ (by decide)]
    exact a7
theorem doneM_app {mem m m' : mmM} {j q : Int} {ts us : List tokT} (h : doneM mem j ts m) (h' : doneM m q us m') : doneM mem q (ts ++ us) m' := by
  obtain ⟨a1, a2, a3, a4, a5, a6, a7⟩ := h
  obtain ⟨b1, b2, b3, b4, b5, b6, b7⟩ := h'
  rw [lmFr_14 a2, a5] at b6 b7
  refine ⟨b1, lmFr_trans a2 b2, b3, b4.trans a4, ?_, tokR_app ts us _ (tokR_congr ts _ (fun i i0 i1 => ?_) a6) ?_, fun i i1 => ?_⟩
  · rw [b5, a5, List.length_append]
    omega
  · have := b7 i (by omega)
    exact ⟨this.1.symm, this.2.symm⟩
  · rw [show 340 * mem 65 14 + codM mem + (ts.length : Int) = 340 * mem 65 14 + (codM mem + (ts.length : Int)) by omega]
    exact b6
  · have := b7 i (by omega)
    have z := a7 i i1
    exact ⟨this.1.trans z.1, this.2.trans z.2⟩
theorem doneM_put {mem m : mmM} {q c v : Int} {ts : List tokT} (h : doneM mem q ts m) (hk : putOK m) : doneM mem q (ts ++ [(c, v)]) (putM m c v) := by
  obtain ⟨a1, a2, a3, a4, a5, a6, a7⟩ := h
  have e14 := lmFr_14 a2
  have ec : 340 * m 65 14 + m 69 (m 65 14) = 340 * mem 65 14 + codM mem + (ts.length : Int) := by
    have : m 69 (m 65 14) = codM mem + (ts.length : Int) := a5
    omega
  refine ⟨by rw [putM_65]; exact a1, lmFr_trans a2 (lmFr_put c v hk), by rw [putM_65]; exact a3, by rw [putM_65]; exact a4, ?_, ?_, fun i i1 => ?_⟩
  · show putM m c v 69 (putM m c v 65 14) = _
    rw [putM_65, putM_69, updF_same, List.length_append, List.length_singleton]
    have : m 69 (m 65 14) = codM mem + (ts.length : Int) := a5
    omega
  · rw [putM_67, putM_68, ec]
    refine tokR_app ts [(c, v)] _ (tokR_congr ts _ (fun i i0 i1 => ?_) a6) ⟨updF_same _ _ _, fun _ => updF_same _ _ _, trivial⟩
    rw [updF_ne (by omega), updF_ne (by omega)]
    exact ⟨rfl, rfl⟩
  · rw [putM_67, putM_68, ec, updF_ne (by omega), updF_ne (by omega)]
    exact a7 i i1
theorem failM_put {mem m : mmM} {f k c v : Int} (h : failM mem f k m) (hk : putOK m) : failM mem f (k - 1) (putM m c v) := by
  obtain ⟨a1, a2, a3, a4, a5, a6⟩ := h
  have e : codM (putM m c v) = codM m + 1 := by
    show putM m c v 69 (putM m c v 65 14) = _
    rw [putM_65, putM_69, updF_same]
    rfl
  refine ⟨by rw [putM_65]; exact a1, a2, lmFr_trans a3 (lmFr_put c v hk), by rw [putM_65]; exact a4, ?_, by rw [putM_65]; exact a6⟩
  rw [e, putM_65]
  omega
/-- a failure behind what was read -/
theorem failM_app {mem m m' : mmM} {j f k s : Int} {ts : List tokT} (h : doneM mem j ts m) (hs : (ts.length : Int) + k ≤ s - mem 65 3) (hj : mem 65 3 ≤ s) (h' : failM (cuM m s) f 0 m') : failM mem f k m' := by
  obtain ⟨a1, a2, a3, a4, a5, a6, a7⟩ := h
  obtain ⟨b1, b2, b3, b4, b5, b6⟩ := h'
  have ec : codM (cuM m s) = codM m := by
    unfold codM
    rw [cuM_65 _ _ (by decide), cuM_ne _ _ (by decide)]
  rw [cuM_at, cuM_65 _ _ (by decide), cuM_65 _ _ (by decide), lmFr_2 a2, a4] at b4
  rw [cuM_at, ec, a5] at b5
  rw [cuM_65 _ _ (by decide), a4] at b6
  exact ⟨b1, b2, lmFr_trans (lmFr_trans a2 (lmFr_cu m s)) b3, by omega, by omega, b6⟩
