/-! the model's tape -/
def hereM (m : mmM) : Int := if m 65 3 < m 65 2 then m 66 (m 65 3) else -1
def bytM (m : mmM) : Prop := (0 ≤ m 65 2 ∧ m 65 2 ≤ 160) ∧ ∀ i, 0 ≤ i → i < 160 → 0 ≤ m 66 i ∧ m 66 i ≤ 255
def CM (m : mmM) : Int → Int := chT (m 66) (m 65 2)
def SM (m : mmM) : Int → Int := skT (m 66) (m 65 2)
def cuM (m : mmM) (j : Int) : mmM := mset m 65 3 j
def lookM (m : mmM) : mmM := cuM m (SM m (m 65 3))
def badM (m : mmM) : mmM := mset m 65 4 (if m 65 4 = -1 then m 65 3 else m 65 4)
def lastM (m : mmM) : mmM := if m 65 4 = -1 then badM (cuM m (m 65 3 - 1)) else m
theorem hereM_rng (m : mmM) (hb : bytM m) (h0 : 0 ≤ m 65 3) : R32 (hereM m) := by
  unfold hereM
  split
  · rename_i q
    have := hb.2 (m 65 3) h0 (by have := hb.1; omega)
    exact ⟨by omega, by omega⟩
  · exact ⟨by decide, by decide⟩
theorem cuM_at (m : mmM) (j : Int) : cuM m j 65 3 = j := mset_same _ _ _ _
theorem cuM_cu (m : mmM) (j k : Int) : cuM (cuM m j) k = cuM m k := mset_mset _ _ _ _ _
theorem cuM_mset (m : mmM) (j k : Int) : mset (cuM m j) 65 3 k = cuM m k := mset_mset _ _ _ _ _
theorem cuM_65 (m : mmM) (j : Int) {k : Int} (h : k ≠ 3) : cuM m j 65 k = m 65 k := by
  show mset m 65 3 j 65 k = _
  rw [mset_at, if_neg h]
theorem cuM_ne (m : mmM) (j : Int) {a : Nat} (h : a ≠ 65) : cuM m j a = m a := mset_ne h
theorem CM_cu (m : mmM) (j : Int) : CM (cuM m j) = CM m := by
  unfold CM
  rw [cuM_65 m j (by decide), cuM_ne m j (by decide)]
theorem SM_cu (m : mmM) (j : Int) : SM (cuM m j) = SM m := by
  unfold SM
  rw [cuM_65 m j (by decide), cuM_ne m j (by decide)]
theorem bytM_cu {m : mmM} (hb : bytM m) (j : Int) : bytM (cuM m j) := by
  unfold bytM
  rw [cuM_65 m j (by decide), cuM_ne m j (by decide)]
  exact hb
theorem lookM_cu (m : mmM) (j : Int) : lookM (cuM m j) = cuM m (SM m j) := by
  unfold lookM
  rw [SM_cu, cuM_at, cuM_cu]
theorem CM_rng {m : mmM} (hb : bytM m) (i : Int) : 0 ≤ CM m i ∧ CM m i ≤ 255 := chT_rng hb.2 hb.1.2 i
theorem hereM_cu (m : mmM) {j : Int} (h0 : 0 ≤ j) : (j < m 65 2 ∧ hereM (cuM m j) = CM m j) ∨ (m 65 2 ≤ j ∧ hereM (cuM m j) = -1 ∧ CM m j = 0) := by
  unfold hereM CM chT
  rw [cuM_at, cuM_65 m j (by decide), cuM_ne m j (by decide)]
  by_cases q : j < m 65 2
  · rw [if_pos q, if_pos ⟨h0, q⟩]
    exact Or.inl ⟨q, rfl⟩
  · rw [if_neg q, if_neg (fun z => q z.2)]
    exact Or.inr ⟨by omega, rfl, rfl⟩
theorem SM_ge (m : mmM) (i : Int) : i ≤ SM m i := skT_ge _ _ _
theorem SM_le {m : mmM} {i : Int} (h : i ≤ m 65 2) : SM m i ≤ m 65 2 := skT_le h
theorem SM_sm (m : mmM) (i : Int) : SM m (SM m i) = SM m i := skT_sk _ _ _
theorem lookM_rng (m : mmM) (hb : bytM m) (h0 : 0 ≤ m 65 3) : R32 (hereM (lookM m)) := by
  refine hereM_rng _ (bytM_cu hb _) ?_
  unfold lookM
  rw [cuM_at]
  have := SM_ge m (m 65 3)
  omega
theorem c_X12_here (mem : mmM) (hb : bytM mem) (h0 : 0 ≤ mem 65 3) : con 0 bX12_here 0 [(2, 65)] mem (fun v m => v = hereM mem ∧ m = mem) := by
  have := hb.1
  refine cn_X12_here (bk_X12_here_0 (fun g => ⟨?_, rfl⟩) (fun g => ⟨?_, rfl⟩) (s1 := fun g => by omega))
  · unfold hereM
    rw [if_neg (by omega)]
  · unfold hereM
    rw [if_pos g]
theorem cn_X12_bad {d : Nat} {P : mmM → Prop} {mem : mmM} (h : mmT bX12_bad d 0 0 (mQv P) 0 [(2, 65)] [] mS mem) : conv bX12_bad d [(2, 65)] mem P := mmC_of [(2, 65)] ok_X12_bad.2.2.2.2 rfl (Nat.le_of_ble_eq_true rfl) h
theorem bk_X12_bad_0 {d : Nat} {P : mmM → Prop} {mem : mmM}
  (q1 : ¬ (mem 65 4) = (-1) → P (mset mem 65 4 (mem 65 4)))
  (q2 : (mem 65 4) = (-1) → P (mset mem 65 4 (mem 65 3)))
  : mmT bX12_bad d 0 0 (mQv P) 0 [(2, 65)] [] mS mem := by
  refine st_aload_n (i := 0) rfl (t := 0) rfl (by decide) dX12_bad_0 ?_
  refine st_aload_n (i := 0) rfl (t := 0) rfl (by decide) dX12_bad_1 ?_
  refine so_getI (v := (mem 65 4)) 65 4 fr_X12_131_11 rfl sh_65 rfl dX12_bad_2 (fun r1 => ?_)
  refine st_iconst dX12_bad_5 ?_
  refine sr_icmp_ne 16 r1 ⟨by decide, by decide⟩ (by decide) dX12_bad_6 (fun h1 => ?_) (fun h1 => ?_)
  · have h1 : ¬ (mem 65 4) = (-1) := by omega
    refine st_aload_n (i := 0) rfl (t := 0) rfl (by decide) dX12_bad_16 ?_
    refine so_getI (v := (mem 65 4)) 65 4 fr_X12_131_11 rfl sh_65 rfl dX12_bad_17 (fun r2 => ?_)
    refine so_putI 65 4 fr_X12_131_11 pf_11_4 fo_65_4 rfl sh_65 r2 dX12_bad_20 ?_
    exact st_return rfl dX12_bad_23 (mQv.ret (q1 h1))
  · have h1 : (mem 65 4) = (-1) := by omega
    refine st_aload_n (i := 0) rfl (t := 0) rfl (by decide) dX12_bad_9 ?_
    refine so_getI (v := (mem 65 3)) 65 3 fr_X12_124_11 rfl sh_65 rfl dX12_bad_10 (fun r3 => ?_)
    refine st_goto 20 (by decide) dX12_bad_13 ?_
    refine so_putI 65 4 fr_X12_131_11 pf_11_4 fo_65_4 rfl sh_65 r3 dX12_bad_20 ?_
    exact st_return rfl dX12_bad_23 (mQv.ret (q2 h1))
theorem c_X12_bad (mem : mmM) : conv bX12_bad 0 [(2, 65)] mem (fun m => m = badM mem) := by
  refine cn_X12_bad (bk_X12_bad_0 (fun g => ?_) (fun g => ?_))
  · unfold badM
    rw [if_neg g]
  · unfold badM
    rw [if_pos g]
theorem cn_X12_look {d : Nat} {P : Int → mmM → Prop} {mem : mmM} (h : mmT bX12_look d 0 0 (mQ 0 P) 0 [(2, 65)] [] mS mem) : con 0 bX12_look d [(2, 65)] mem P := mmC_of [(2, 65)] ok_X12_look.2.2.2.2 rfl (Nat.le_of_ble_eq_true rfl) h
theorem bk_X12_look_0 {d : Nat} {P : Int → mmM → Prop} {mem : mmM}
  (k1 : (hereM mem) = 32 → mmT bX12_look d 0 0 (mQ 0 P) 0 [(2, 65)] [] mS (mset mem 65 3 ((mem 65 3) + 1)))
  (q1 : ¬ (hereM mem) = 32 → P (hereM mem) mem)
  (hd1 : 1 ≤ d := by omega)
  (s1 : bytM mem := by intros; first | omega | assumption | solve_by_elim)
  (s2 : 0 ≤ (mem 65 3) := by intros; first | omega | assumption | solve_by_elim)
  (s3 : (hereM mem) = 32 → R32 ((mem 65 3) + 1) := by intros; first | omega | assumption | solve_by_elim)
  : mmT bX12_look d 0 0 (mQ 0 P) 0 [(2, 65)] [] mS mem := by
  refine st_aload_n (i := 0) rfl (t := 0) rfl (by decide) dX12_look_0 ?_
  refine st_callV (kc2 := 0) (ks2 := 0) (av := []) 65 11 mr_X12_127 ok_X12_here (c_X12_here mem (s1) (s2)) rfl sh_65 ⟨_, rfl, rfl, by decide⟩ rfl rfl hd1 (Nat.le_refl 0) (Nat.le_refl 0) (Nat.le_of_ble_eq_true rfl) dX12_look_1 (mQ.elim fun v1 m1 hp => ?_)
  obtain ⟨hpv, hpm⟩ := hp
  subst hpv
  have hpm := hpm.symm
  subst hpm
  refine st_bipush rfl dX12_look_4 ?_
  refine sr_icmp_ne 22 (hereM_rng mem (s1) (s2)) ⟨by decide, by decide⟩ (by decide) dX12_look_6 (fun h1 => ?_) (fun h1 => ?_)
  · have h1 : ¬ (hereM mem) = 32 := by omega
    refine st_aload_n (i := 0) rfl (t := 0) rfl (by decide) dX12_look_22 ?_
    refine st_callV (kc2 := 0) (ks2 := 0) (av := []) 65 11 mr_X12_127 ok_X12_here (c_X12_here mem (s1) (s2)) rfl sh_65 ⟨_, rfl, rfl, by decide⟩ rfl rfl hd1 (Nat.le_refl 0) (Nat.le_refl 0) (Nat.le_of_ble_eq_true rfl) dX12_look_23 (mQ.elim fun v2 m2 hp => ?_)
    obtain ⟨hpv, hpm⟩ := hp
    subst hpv
    have hpm := hpm.symm
    subst hpm
    exact st_ireturn rfl dX12_look_26 (mQ.ret (q1 h1))
  · have h1 : (hereM mem) = 32 := by omega
    refine st_aload_n (i := 0) rfl (t := 0) rfl (by decide) dX12_look_9 ?_
    refine st_dup (Nat.ne_of_beq_eq_false rfl) dX12_look_10 ?_
    refine so_getI (v := (mem 65 3)) 65 3 fr_X12_124_11 rfl sh_65 rfl dX12_look_11 (fun r1 => ?_)
    refine st_iconst dX12_look_14 ?_
    refine st_iadd dX12_look_15 ?_
    refine so_putI 65 3 fr_X12_124_11 pf_11_3 fo_65_3 rfl sh_65 (s3 h1) dX12_look_16 ?_
    refine st_goto 0 (by decide) dX12_look_19 ?_
    exact st_locals [(2, 65)] ⟨Or.inr rfl, trivial⟩ (k1 h1)
theorem c_X12_look (mem : mmM) (hb : bytM mem) (h0 : 0 ≤ mem 65 3) : con 0 bX12_look 1 [(2, 65)] mem (fun v m => v = hereM (lookM mem) ∧ m = lookM mem) := by
  have main : ∀ (k : Nat) (j : Int), 0 ≤ j → (mem 65 2 - j).toNat = k → mmT bX12_look 1 0 0 (mQ 0 (fun v m' => v = hereM (cuM mem (SM mem j)) ∧ m' = cuM mem (SM mem j))) 0 [(2, 65)] [] mS (cuM mem j) := by
    intro k
    induction k with
    | zero =>
      intro j j0 hk
      have e : SM mem j = j := skT_end (by omega)
      have h : hereM (cuM mem j) = -1 := by
        rcases hereM_cu mem j0 with q | q
        · omega
        · exact q.2.1
      refine bk_X12_look_0 (fun g => ?_) (fun g => ?_) (s1 := bytM_cu hb j) (s2 := by rw [cuM_at]; exact j0) (s3 := fun g => by rw [h] at g; exact absurd g (by decide))
      · rw [h] at g
        exact absurd g (by decide)
      · rw [e]
        exact ⟨rfl, rfl⟩
    | succ k ih =>
      intro j j0 hk
      have hb1 := hb.1
      have h : hereM (cuM mem j) = mem 66 j := by
        rcases hereM_cu mem j0 with q | q
        · rw [q.2]
          exact if_pos ⟨j0, q.1⟩
        · omega
      refine bk_X12_look_0 (fun g => ?_) (fun g => ?_) (s1 := bytM_cu hb j) (s2 := by rw [cuM_at]; exact j0) (s3 := fun g => by rw [cuM_at]; exact ⟨by omega, by omega⟩)
      · rw [h] at g
        have e : SM mem j = SM mem (j + 1) := skT_step (by omega) g
        rw [cuM_at, cuM_mset, e]
        exact ih (j + 1) (by omega) (by omega)
      · have e : SM mem j = j := skT_end (fun z => g (by rw [h]; exact z.2))
        rw [e]
        exact ⟨rfl, rfl⟩
  have := main _ (mem 65 3) h0 rfl
  have e : cuM mem (mem 65 3) = mem := mset_id mem 65 3
  rw [e] at this
  exact cn_X12_look this
theorem cn_X12_lastBad {d : Nat} {P : mmM → Prop} {mem : mmM} (h : mmT bX12_lastBad d 0 0 (mQv P) 0 [(2, 65)] [] mS mem) : conv bX12_lastBad d [(2, 65)] mem P := mmC_of [(2, 65)] ok_X12_lastBad.2.2.2.2 rfl (Nat.le_of_ble_eq_true rfl) h
theorem bk_X12_lastBad_0 {d : Nat} {P : mmM → Prop} {mem : mmM}
  (q1 : ¬ (mem 65 4) = (-1) → P mem)
  (q2 : (mem 65 4) = (-1) → P (badM (mset mem 65 3 ((mem 65 3) - 1))))
  (hd1 : 1 ≤ d := by omega)
  (s1 : (mem 65 4) = (-1) → R32 ((mem 65 3) - 1) := by intros; first | omega | assumption | solve_by_elim)
  : mmT bX12_lastBad d 0 0 (mQv P) 0 [(2, 65)] [] mS mem := by
  refine st_aload_n (i := 0) rfl (t := 0) rfl (by decide) dX12_lastBad_0 ?_
  refine so_getI (v := (mem 65 4)) 65 4 fr_X12_131_11 rfl sh_65 rfl dX12_lastBad_1 (fun r1 => ?_)
  refine st_iconst dX12_lastBad_4 ?_
  refine sr_icmp_ne 22 r1 ⟨by decide, by decide⟩ (by decide) dX12_lastBad_5 (fun h1 => ?_) (fun h1 => ?_)
  · have h1 : ¬ (mem 65 4) = (-1) := by omega
    exact st_return rfl dX12_lastBad_22 (mQv.ret (q1 h1))
  · have h1 : (mem 65 4) = (-1) := by omega
    refine st_aload_n (i := 0) rfl (t := 0) rfl (by decide) dX12_lastBad_8 ?_
    refine st_dup (Nat.ne_of_beq_eq_false rfl) dX12_lastBad_9 ?_
    refine so_getI (v := (mem 65 3)) 65 3 fr_X12_124_11 rfl sh_65 rfl dX12_lastBad_10 (fun r2 => ?_)
    refine st_iconst dX12_lastBad_13 ?_
    refine st_isub dX12_lastBad_14 ?_
    refine so_putI 65 3 fr_X12_124_11 pf_11_3 fo_65_3 rfl sh_65 (s1 h1) dX12_lastBad_15 ?_
    refine st_aload_n (i := 0) rfl (t := 0) rfl (by decide) dX12_lastBad_18 ?_
    refine st_callV (kc2 := 0) (ks2 := 0) (av := []) 65 11 mr_X12_140 ok_X12_bad (c_X12_bad (mset mem 65 3 ((mem 65 3) - 1)) ) rfl sh_65 ⟨_, rfl, rfl, by decide⟩ rfl rfl hd1 (Nat.le_refl 0) (Nat.le_refl 0) (Nat.le_of_ble_eq_true rfl) dX12_lastBad_19 (mQv.elim fun m1 hp => ?_)
    have hp := hp.symm
    subst hp
    exact st_return rfl dX12_lastBad_22 (mQv.ret (q2 h1))
theorem c_X12_lastBad (mem : mmM) (h : R32 (mem 65 3 - 1)) : conv bX12_lastBad 1 [(2, 65)] mem (fun m => m = lastM mem) := by
  refine cn_X12_lastBad (bk_X12_lastBad_0 (fun g => ?_) (fun g => ?_) (s1 := fun _ => h))
  · unfold lastM
    rw [if_neg g]
  · unfold lastM
    rw [if_pos g]
    rfl
theorem cn_X12_digits {d : Nat} {P : Int → mmM → Prop} {mem : mmM} (h : mmT bX12_digits d 0 0 (mQ 0 P) 0 [(2, 65), (9, 0)] [] mS mem) : con 0 bX12_digits d [(2, 65)] mem P := mmC_of [(2, 65), (9, 0)] ok_X12_digits.2.2.2.2 rfl (Nat.le_of_ble_eq_true rfl) h
theorem bk_X12_digits_0 {d : Nat} {P : Int → mmM → Prop} {mem : mmM}
  (q1 : (48 ≤ (hereM (lookM mem)) ∧ (hereM (lookM mem)) ≤ 57) → ¬ (48 ≤ (hereM (mset (lookM mem) 65 3 (((lookM mem) 65 3) + 1))) ∧ (hereM (mset (lookM mem) 65 3 (((lookM mem) 65 3) + 1))) ≤ 57) → ¬ (48 ≤ (hereM (mset (lookM mem) 65 3 (((lookM mem) 65 3) + 1))) ∧ (hereM (mset (lookM mem) 65 3 (((lookM mem) 65 3) + 1))) ≤ 57) → P ((hereM (lookM mem)) - 48) (mset (lookM mem) 65 3 (((lookM mem) 65 3) + 1)))
  (q2 : (48 ≤ (hereM (lookM mem)) ∧ (hereM (lookM mem)) ≤ 57) → ¬ (48 ≤ (hereM (mset (lookM mem) 65 3 (((lookM mem) 65 3) + 1))) ∧ (hereM (mset (lookM mem) 65 3 (((lookM mem) 65 3) + 1))) ≤ 57) → (48 ≤ (hereM (mset (lookM mem) 65 3 (((lookM mem) 65 3) + 1))) ∧ (hereM (mset (lookM mem) 65 3 (((lookM mem) 65 3) + 1))) ≤ 57) → P ((hereM (lookM mem)) - 48) (badM (mset (lookM mem) 65 3 (((lookM mem) 65 3) + 1))))
  (q3 : (48 ≤ (hereM (lookM mem)) ∧ (hereM (lookM mem)) ≤ 57) → (48 ≤ (hereM (mset (lookM mem) 65 3 (((lookM mem) 65 3) + 1))) ∧ (hereM (mset (lookM mem) 65 3 (((lookM mem) 65 3) + 1))) ≤ 57) → ¬ (48 ≤ (hereM (mset (mset (lookM mem) 65 3 (((lookM mem) 65 3) + 1)) 65 3 ((((lookM mem) 65 3) + 1) + 1))) ∧ (hereM (mset (mset (lookM mem) 65 3 (((lookM mem) 65 3) + 1)) 65 3 ((((lookM mem) 65 3) + 1) + 1))) ≤ 57) → P (((10 * ((hereM (lookM mem)) - 48)) + (hereM (mset (lookM mem) 65 3 (((lookM mem) 65 3) + 1)))) - 48) (mset (mset (lookM mem) 65 3 (((lookM mem) 65 3) + 1)) 65 3 ((((lookM mem) 65 3) + 1) + 1)))
  (q4 : (48 ≤ (hereM (lookM mem)) ∧ (hereM (lookM mem)) ≤ 57) → (48 ≤ (hereM (mset (lookM mem) 65 3 (((lookM mem) 65 3) + 1))) ∧ (hereM (mset (lookM mem) 65 3 (((lookM mem) 65 3) + 1))) ≤ 57) → (48 ≤ (hereM (mset (mset (lookM mem) 65 3 (((lookM mem) 65 3) + 1)) 65 3 ((((lookM mem) 65 3) + 1) + 1))) ∧ (hereM (mset (mset (lookM mem) 65 3 (((lookM mem) 65 3) + 1)) 65 3 ((((lookM mem) 65 3) + 1) + 1))) ≤ 57) → P (((10 * ((hereM (lookM mem)) - 48)) + (hereM (mset (lookM mem) 65 3 (((lookM mem) 65 3) + 1)))) - 48) (badM (mset (mset (lookM mem) 65 3 (((lookM mem) 65 3) + 1)) 65 3 ((((lookM mem) 65 3) + 1) + 1))))
  (q5 : ¬ (48 ≤ (hereM (lookM mem)) ∧ (hereM (lookM mem)) ≤ 57) → P 0 (badM (lookM mem)))
  (hd1 : 1 ≤ d := by omega)
  (hd2 : 2 ≤ d := by omega)
  (s1 : bytM mem := by intros; first | omega | assumption | solve_by_elim)
  (s2 : 0 ≤ (mem 65 3) := by intros; first | omega | assumption | solve_by_elim)
  (s3 : (48 ≤ (hereM (lookM mem)) ∧ (hereM (lookM mem)) ≤ 57) → bytM (lookM mem) := by intros; first | omega | assumption | solve_by_elim)
  (s4 : (48 ≤ (hereM (lookM mem)) ∧ (hereM (lookM mem)) ≤ 57) → 0 ≤ ((lookM mem) 65 3) := by intros; first | omega | assumption | solve_by_elim)
  (s5 : (48 ≤ (hereM (lookM mem)) ∧ (hereM (lookM mem)) ≤ 57) → R32 (((lookM mem) 65 3) + 1) := by intros; first | omega | assumption | solve_by_elim)
  (s6 : (48 ≤ (hereM (lookM mem)) ∧ (hereM (lookM mem)) ≤ 57) → bytM (mset (lookM mem) 65 3 (((lookM mem) 65 3) + 1)) := by intros; first | omega | assumption | solve_by_elim)
  (s7 : (48 ≤ (hereM (lookM mem)) ∧ (hereM (lookM mem)) ≤ 57) → 0 ≤ ((mset (lookM mem) 65 3 (((lookM mem) 65 3) + 1)) 65 3) := by intros; first | omega | assumption | solve_by_elim)
  (s8 : (48 ≤ (hereM (lookM mem)) ∧ (hereM (lookM mem)) ≤ 57) → (48 ≤ (hereM (mset (lookM mem) 65 3 (((lookM mem) 65 3) + 1))) ∧ (hereM (mset (lookM mem) 65 3 (((lookM mem) 65 3) + 1))) ≤ 57) → R32 ((((lookM mem) 65 3) + 1) + 1) := by intros; first | omega | assumption | solve_by_elim)
  (s9 : (48 ≤ (hereM (lookM mem)) ∧ (hereM (lookM mem)) ≤ 57) → (48 ≤ (hereM (mset (lookM mem) 65 3 (((lookM mem) 65 3) + 1))) ∧ (hereM (mset (lookM mem) 65 3 (((lookM mem) 65 3) + 1))) ≤ 57) → bytM (mset (mset (lookM mem) 65 3 (((lookM mem) 65 3) + 1)) 65 3 ((((lookM mem) 65 3) + 1) + 1)) := by intros; first | omega | assumption | solve_by_elim)
  (s10 : (48 ≤ (hereM (lookM mem)) ∧ (hereM (lookM mem)) ≤ 57) → (48 ≤ (hereM (mset (lookM mem) 65 3 (((lookM mem) 65 3) + 1))) ∧ (hereM (mset (lookM mem) 65 3 (((lookM mem) 65 3) + 1))) ≤ 57) → 0 ≤ ((mset (mset (lookM mem) 65 3 (((lookM mem) 65 3) + 1)) 65 3 ((((lookM mem) 65 3) + 1) + 1)) 65 3) := by intros; first | omega | assumption | solve_by_elim)
  : mmT bX12_digits d 0 0 (mQ 0 P) 0 [(2, 65), (9, 0)] [] mS mem := by
  refine st_aload_n (i := 0) rfl (t := 0) rfl (by decide) dX12_digits_0 ?_
  refine st_callV (kc2 := 0) (ks2 := 0) (av := []) 65 11 mr_X12_143 ok_X12_look (c_X12_look mem (s1) (s2)) rfl sh_65 ⟨_, rfl, rfl, by decide⟩ rfl rfl hd2 (Nat.le_refl 0) (Nat.le_refl 0) (Nat.le_of_ble_eq_true rfl) dX12_digits_1 (mQ.elim fun v1 m1 hp => ?_)
  obtain ⟨hpv, hpm⟩ := hp
  subst hpv
  have hpm := hpm.symm
  subst hpm
  refine st_callS (kc2 := 0) (ks2 := 0) (av := [(0, (hereM (lookM mem)))]) mr_X12_146 ok_X12_isDigit (c_X12_isDigit (lookM mem) (hereM (lookM mem)) ((lookM_rng mem (s1) (s2)))) rfl rfl hd2 (Nat.le_refl 0) (Nat.le_refl 0) (Nat.le_of_ble_eq_true rfl) dX12_digits_4 (mQ.elim fun v2 m2 hp => ?_)
  obtain ⟨hpv, hpm⟩ := hp
  subst hpv
  have hpm := hpm.symm
  subst hpm
  refine so_ifneB 16 (by decide) dX12_digits_7 (fun h1 => ?_) (fun h1 => ?_)
  · have h1 : (48 ≤ (hereM (lookM mem)) ∧ (hereM (lookM mem)) ≤ 57) := h1
    refine st_aload_n (i := 0) rfl (t := 0) rfl (by decide) dX12_digits_16 ?_
    refine st_callV (kc2 := 0) (ks2 := 0) (av := []) 65 11 mr_X12_127 ok_X12_here (c_X12_here (lookM mem) ((s3 h1)) ((s4 h1))) rfl sh_65 ⟨_, rfl, rfl, by decide⟩ rfl rfl hd1 (Nat.le_refl 0) (Nat.le_refl 0) (Nat.le_of_ble_eq_true rfl) dX12_digits_17 (mQ.elim fun v3 m3 hp => ?_)
    obtain ⟨hpv, hpm⟩ := hp
    subst hpv
    have hpm := hpm.symm
    subst hpm
    refine st_bipush rfl dX12_digits_20 ?_
    refine st_isub dX12_digits_22 ?_
    refine st_istore_n (i := 1) rfl (by decide) (lc' := [(2, 65), (0, ((hereM (lookM mem)) - 48))]) rfl dX12_digits_23 ?_
    refine st_aload_n (i := 0) rfl (t := 0) rfl (by decide) dX12_digits_24 ?_
    refine st_dup (Nat.ne_of_beq_eq_false rfl) dX12_digits_25 ?_
    refine so_getI (v := ((lookM mem) 65 3)) 65 3 fr_X12_124_11 rfl sh_65 rfl dX12_digits_26 (fun r1 => ?_)
    refine st_iconst dX12_digits_29 ?_
    refine st_iadd dX12_digits_30 ?_
    refine so_putI 65 3 fr_X12_124_11 pf_11_3 fo_65_3 rfl sh_65 (s5 h1) dX12_digits_31 ?_
    refine st_aload_n (i := 0) rfl (t := 0) rfl (by decide) dX12_digits_34 ?_
    refine st_callV (kc2 := 0) (ks2 := 0) (av := []) 65 11 mr_X12_127 ok_X12_here (c_X12_here (mset (lookM mem) 65 3 (((lookM mem) 65 3) + 1)) ((s6 h1)) ((s7 h1))) rfl sh_65 ⟨_, rfl, rfl, by decide⟩ rfl rfl hd1 (Nat.le_refl 0) (Nat.le_refl 0) (Nat.le_of_ble_eq_true rfl) dX12_digits_35 (mQ.elim fun v4 m4 hp => ?_)
    obtain ⟨hpv, hpm⟩ := hp
    subst hpv
    have hpm := hpm.symm
    subst hpm
    refine st_callS (kc2 := 0) (ks2 := 0) (av := [(0, (hereM (mset (lookM mem) 65 3 (((lookM mem) 65 3) + 1))))]) mr_X12_146 ok_X12_isDigit (c_X12_isDigit (mset (lookM mem) 65 3 (((lookM mem) 65 3) + 1)) (hereM (mset (lookM mem) 65 3 (((lookM mem) 65 3) + 1))) ((hereM_rng (mset (lookM mem) 65 3 (((lookM mem) 65 3) + 1)) ((s6 h1)) ((s7 h1))))) rfl rfl hd2 (Nat.le_refl 0) (Nat.le_refl 0) (Nat.le_of_ble_eq_true rfl) dX12_digits_38 (mQ.elim fun v5 m5 hp => ?_)
    obtain ⟨hpv, hpm⟩ := hp
    subst hpv
    have hpm := hpm.symm
    subst hpm
    refine so_ifeqB 67 (by decide) dX12_digits_41 (fun h2 => ?_) (fun h2 => ?_)
    · have h2 : ¬ (48 ≤ (hereM (mset (lookM mem) 65 3 (((lookM mem) 65 3) + 1))) ∧ (hereM (mset (lookM mem) 65 3 (((lookM mem) 65 3) + 1))) ≤ 57) := h2
      refine st_aload_n (i := 0) rfl (t := 0) rfl (by decide) dX12_digits_67 ?_
      refine st_callV (kc2 := 0) (ks2 := 0) (av := []) 65 11 mr_X12_127 ok_X12_here (c_X12_here (mset (lookM mem) 65 3 (((lookM mem) 65 3) + 1)) ((s6 h1)) ((s7 h1))) rfl sh_65 ⟨_, rfl, rfl, by decide⟩ rfl rfl hd1 (Nat.le_refl 0) (Nat.le_refl 0) (Nat.le_of_ble_eq_true rfl) dX12_digits_68 (mQ.elim fun v6 m6 hp => ?_)
      obtain ⟨hpv, hpm⟩ := hp
      subst hpv
      have hpm := hpm.symm
      subst hpm
      refine st_callS (kc2 := 0) (ks2 := 0) (av := [(0, (hereM (mset (lookM mem) 65 3 (((lookM mem) 65 3) + 1))))]) mr_X12_146 ok_X12_isDigit (c_X12_isDigit (mset (lookM mem) 65 3 (((lookM mem) 65 3) + 1)) (hereM (mset (lookM mem) 65 3 (((lookM mem) 65 3) + 1))) ((hereM_rng (mset (lookM mem) 65 3 (((lookM mem) 65 3) + 1)) ((s6 h1)) ((s7 h1))))) rfl rfl hd2 (Nat.le_refl 0) (Nat.le_refl 0) (Nat.le_of_ble_eq_true rfl) dX12_digits_71 (mQ.elim fun v7 m7 hp => ?_)
      obtain ⟨hpv, hpm⟩ := hp
      subst hpv
      have hpm := hpm.symm
      subst hpm
      refine so_ifeqB 81 (by decide) dX12_digits_74 (fun h3 => ?_) (fun h3 => ?_)
      · have h3 : ¬ (48 ≤ (hereM (mset (lookM mem) 65 3 (((lookM mem) 65 3) + 1))) ∧ (hereM (mset (lookM mem) 65 3 (((lookM mem) 65 3) + 1))) ≤ 57) := h3
        refine st_iload_n (i := 1) rfl rfl dX12_digits_81 ?_
        exact st_ireturn rfl dX12_digits_82 (mQ.ret (q1 h1 h2 h3))
      · have h3 : (48 ≤ (hereM (mset (lookM mem) 65 3 (((lookM mem) 65 3) + 1))) ∧ (hereM (mset (lookM mem) 65 3 (((lookM mem) 65 3) + 1))) ≤ 57) := h3
        refine st_aload_n (i := 0) rfl (t := 0) rfl (by decide) dX12_digits_77 ?_
        refine st_callV (kc2 := 0) (ks2 := 0) (av := []) 65 11 mr_X12_140 ok_X12_bad (c_X12_bad (mset (lookM mem) 65 3 (((lookM mem) 65 3) + 1)) ) rfl sh_65 ⟨_, rfl, rfl, by decide⟩ rfl rfl hd1 (Nat.le_refl 0) (Nat.le_refl 0) (Nat.le_of_ble_eq_true rfl) dX12_digits_78 (mQv.elim fun m8 hp => ?_)
        have hp := hp.symm
        subst hp
        refine st_iload_n (i := 1) rfl rfl dX12_digits_81 ?_
        exact st_ireturn rfl dX12_digits_82 (mQ.ret (q2 h1 h2 h3))
    · have h2 : (48 ≤ (hereM (mset (lookM mem) 65 3 (((lookM mem) 65 3) + 1))) ∧ (hereM (mset (lookM mem) 65 3 (((lookM mem) 65 3) + 1))) ≤ 57) := h2
      refine st_bipush rfl dX12_digits_44 ?_
      refine st_iload_n (i := 1) rfl rfl dX12_digits_46 ?_
      refine st_imul dX12_digits_47 ?_
      refine st_aload_n (i := 0) rfl (t := 0) rfl (by decide) dX12_digits_48 ?_
      refine st_callV (kc2 := 0) (ks2 := 0) (av := []) 65 11 mr_X12_127 ok_X12_here (c_X12_here (mset (lookM mem) 65 3 (((lookM mem) 65 3) + 1)) ((s6 h1)) ((s7 h1))) rfl sh_65 ⟨_, rfl, rfl, by decide⟩ rfl rfl hd1 (Nat.le_refl 0) (Nat.le_refl 0) (Nat.le_of_ble_eq_true rfl) dX12_digits_49 (mQ.elim fun v8 m9 hp => ?_)
      obtain ⟨hpv, hpm⟩ := hp
      subst hpv
      have hpm := hpm.symm
      subst hpm
      refine st_iadd dX12_digits_52 ?_
      refine st_bipush rfl dX12_digits_53 ?_
      refine st_isub dX12_digits_55 ?_
      refine st_istore_n (i := 1) rfl (by decide) (lc' := [(2, 65), (0, (((10 * ((hereM (lookM mem)) - 48)) + (hereM (mset (lookM mem) 65 3 (((lookM mem) 65 3) + 1)))) - 48))]) rfl dX12_digits_56 ?_
      refine st_aload_n (i := 0) rfl (t := 0) rfl (by decide) dX12_digits_57 ?_
      refine st_dup (Nat.ne_of_beq_eq_false rfl) dX12_digits_58 ?_
      refine so_getI (v := (((lookM mem) 65 3) + 1)) 65 3 fr_X12_124_11 rfl sh_65 rfl dX12_digits_59 (fun r2 => ?_)
      refine st_iconst dX12_digits_62 ?_
      refine st_iadd dX12_digits_63 ?_
      refine so_putI 65 3 fr_X12_124_11 pf_11_3 fo_65_3 rfl sh_65 (s8 h1 h2) dX12_digits_64 ?_
      refine st_aload_n (i := 0) rfl (t := 0) rfl (by decide) dX12_digits_67 ?_
      refine st_callV (kc2 := 0) (ks2 := 0) (av := []) 65 11 mr_X12_127 ok_X12_here (c_X12_here (mset (mset (lookM mem) 65 3 (((lookM mem) 65 3) + 1)) 65 3 ((((lookM mem) 65 3) + 1) + 1)) ((s9 h1 h2)) ((s10 h1 h2))) rfl sh_65 ⟨_, rfl, rfl, by decide⟩ rfl rfl hd1 (Nat.le_refl 0) (Nat.le_refl 0) (Nat.le_of_ble_eq_true rfl) dX12_digits_68 (mQ.elim fun v9 m10 hp => ?_)
      obtain ⟨hpv, hpm⟩ := hp
      subst hpv
      have hpm := hpm.symm
      subst hpm
      refine st_callS (kc2 := 0) (ks2 := 0) (av := [(0, (hereM (mset (mset (lookM mem) 65 3 (((lookM mem) 65 3) + 1)) 65 3 ((((lookM mem) 65 3) + 1) + 1))))]) mr_X12_146 ok_X12_isDigit (c_X12_isDigit (mset (mset (lookM mem) 65 3 (((lookM mem) 65 3) + 1)) 65 3 ((((lookM mem) 65 3) + 1) + 1)) (hereM (mset (mset (lookM mem) 65 3 (((lookM mem) 65 3) + 1)) 65 3 ((((lookM mem) 65 3) + 1) + 1))) ((hereM_rng (mset (mset (lookM mem) 65 3 (((lookM mem) 65 3) + 1)) 65 3 ((((lookM mem) 65 3) + 1) + 1)) ((s9 h1 h2)) ((s10 h1 h2))))) rfl rfl hd2 (Nat.le_refl 0) (Nat.le_refl 0) (Nat.le_of_ble_eq_true rfl) dX12_digits_71 (mQ.elim fun v10 m11 hp => ?_)
      obtain ⟨hpv, hpm⟩ := hp
      subst hpv
      have hpm := hpm.symm
      subst hpm
      refine so_ifeqB 81 (by decide) dX12_digits_74 (fun h4 => ?_) (fun h4 => ?_)
      · have h4 : ¬ (48 ≤ (hereM (mset (mset (lookM mem) 65 3 (((lookM mem) 65 3) + 1)) 65 3 ((((lookM mem) 65 3) + 1) + 1))) ∧ (hereM (mset (mset (lookM mem) 65 3 (((lookM mem) 65 3) + 1)) 65 3 ((((lookM mem) 65 3) + 1) + 1))) ≤ 57) := h4
        refine st_iload_n (i := 1) rfl rfl dX12_digits_81 ?_
        exact st_ireturn rfl dX12_digits_82 (mQ.ret (q3 h1 h2 h4))
      · have h4 : (48 ≤ (hereM (mset (mset (lookM mem) 65 3 (((lookM mem) 65 3) + 1)) 65 3 ((((lookM mem) 65 3) + 1) + 1))) ∧ (hereM (mset (mset (lookM mem) 65 3 (((lookM mem) 65 3) + 1)) 65 3 ((((lookM mem) 65 3) + 1) + 1))) ≤ 57) := h4
        refine st_aload_n (i := 0) rfl (t := 0) rfl (by decide) dX12_digits_77 ?_
        refine st_callV (kc2 := 0) (ks2 := 0) (av := []) 65 11 mr_X12_140 ok_X12_bad (c_X12_bad (mset (mset (lookM mem) 65 3 (((lookM mem) 65 3) + 1)) 65 3 ((((lookM mem) 65 3) + 1) + 1)) ) rfl sh_65 ⟨_, rfl, rfl, by decide⟩ rfl rfl hd1 (Nat.le_refl 0) (Nat.le_refl 0) (Nat.le_of_ble_eq_true rfl) dX12_digits_78 (mQv.elim fun m12 hp => ?_)
        have hp := hp.symm
        subst hp
        refine st_iload_n (i := 1) rfl rfl dX12_digits_81 ?_
        exact st_ireturn rfl dX12_digits_82 (mQ.ret (q4 h1 h2 h4))
  · have h1 : ¬ (48 ≤ (hereM (lookM mem)) ∧ (hereM (lookM mem)) ≤ 57) := h1
    refine st_aload_n (i := 0) rfl (t := 0) rfl (by decide) dX12_digits_10 ?_
    refine st_callV (kc2 := 0) (ks2 := 0) (av := []) 65 11 mr_X12_140 ok_X12_bad (c_X12_bad (lookM mem) ) rfl sh_65 ⟨_, rfl, rfl, by decide⟩ rfl rfl hd1 (Nat.le_refl 0) (Nat.le_refl 0) (Nat.le_of_ble_eq_true rfl) dX12_digits_11 (mQv.elim fun m13 hp => ?_)
    have hp := hp.symm
    subst hp
    refine st_iconst dX12_digits_14 ?_
    exact st_ireturn rfl dX12_digits_15 (mQ.ret (q5 h1))
/-- the model's state once something was wrong: the place of it, and where it stands -/
def wM (m : mmM) (j f : Int) : mmM := mset (cuM m j) 65 4 f
theorem badM_cu (m : mmM) (j : Int) (h : m 65 4 = -1) : badM (cuM m j) = wM m j j := by
  unfold badM wM
  rw [cuM_65 m j (by decide), if_pos h, cuM_at]
def numM (m : mmM) (r : Int × Int) (v : Int) (m' : mmM) : Prop := (¬ r.1 = -1 ∧ v = r.1 ∧ m' = cuM m r.2) ∨ (r.1 = -1 ∧ (0 ≤ v ∧ v ≤ 99) ∧ ∃ a, (0 ≤ a ∧ a ≤ m 65 2) ∧ m' = wM m a r.2)
theorem digC_lt {m : mmM} {j : Int} (h : digC (CM m j)) : j < m 65 2 := chT_in (T := m 66) (show 0 < CM m j by omega)
theorem hereM_dig (m : mmM) {j : Int} (h0 : 0 ≤ j) : (48 ≤ hereM (cuM m j) ∧ hereM (cuM m j) ≤ 57) ↔ digC (CM m j) := by
  rcases hereM_cu m h0 with q | q
  · rw [q.2]
  · rw [q.2.1, q.2.2]
    constructor <;> (intro z; omega)
theorem hereM_val {m : mmM} {j : Int} (h0 : 0 ≤ j) (h : 0 < CM m j) : hereM (cuM m j) = CM m j := by
  rcases hereM_cu m h0 with q | q
  · exact q.2
  · omega
theorem d_digits (mem : mmM) (hb : bytM mem) {j : Int} (h0 : 0 ≤ j) (h1 : j ≤ mem 65 2) (hw : mem 65 4 = -1) : con 0 bX12_digits 2 [(2, 65)] (cuM mem j) (numM mem (numS (CM mem) 2 (SM mem j))) := by
  have hb1 := hb.1
  have ge := SM_ge mem j
  have le := SM_le h1
  obtain ⟨p, hp⟩ : ∃ p, SM mem j = p := ⟨_, rfl⟩
  have d0 := hereM_dig mem (j := p) (by omega)
  have d1 := hereM_dig mem (j := p + 1) (by omega)
  have d2 := hereM_dig mem (j := p + 1 + 1) (by omega)
  have n0 : ¬ digC (CM mem p) → numS (CM mem) 2 p = (-1, p) := fun q => if_neg q
  have n1 : digC (CM mem p) → ¬ digC (CM mem (p + 1)) → numS (CM mem) 2 p = (CM mem p - 48, p + 1) := by
    intro q q1
    have : numS (CM mem) 2 p = numF (CM mem) 1 (0 * 10 + CM mem p - 48) (p + 1) := (if_pos q).trans (if_pos q)
    rw [this]
    unfold numF
    rw [if_neg q1]
    congr 1
    omega
  have n2 : digC (CM mem p) → digC (CM mem (p + 1)) → numS (CM mem) 2 p = if digC (CM mem (p + 1 + 1)) then (-1, p + 1 + 1) else ((CM mem p - 48) * 10 + CM mem (p + 1) - 48, p + 1 + 1) := by
    intro q q1
    have : numS (CM mem) 2 p = numF (CM mem) 0 ((0 * 10 + CM mem p - 48) * 10 + CM mem (p + 1) - 48) (p + 1 + 1) := (if_pos q).trans ((if_pos q).trans (if_pos q1))
    rw [this]
    unfold numF
    rw [show (0 * 10 + CM mem p - 48) = CM mem p - 48 by omega]
  have lt0 : digC (CM mem p) → p < mem 65 2 := digC_lt
  have lt1 : digC (CM mem (p + 1)) → p + 1 < mem 65 2 := digC_lt
  have v0 : digC (CM mem p) → hereM (cuM mem p) = CM mem p := fun q => hereM_val (by omega) (by omega)
  have v1 : digC (CM mem (p + 1)) → hereM (cuM mem (p + 1)) = CM mem (p + 1) := fun q => hereM_val (by omega) (by omega)
  refine cn_X12_digits ?_
  refine bk_X12_digits_0 ?_ ?_ ?_ ?_ ?_ (s1 := ?_) (s2 := ?_) (s3 := ?_) (s4 := ?_) (s5 := ?_) (s6 := ?_) (s7 := ?_) (s8 := ?_) (s9 := ?_) (s10 := ?_) <;> (try rw [lookM_cu]) <;> (try rw [hp]) <;> (try rw [cuM_at]) <;> (try rw [cuM_mset]) <;> (try rw [cuM_mset])
  · intro g g1 _
    have g := d0.mp g
    have g1 : ¬ digC (CM mem (p + 1)) := fun z => g1 (d1.mpr z)
    rw [n1 g g1, v0 g]
    exact Or.inl ⟨by show ¬ (CM mem p - 48 = -1); omega, rfl, rfl⟩
  · intro g g1 g2
    exact absurd g2 g1
  · intro g g1 g2
    have g := d0.mp g
    have g1 := d1.mp g1
    have g2 : ¬ digC (CM mem (p + 1 + 1)) := fun z => g2 (d2.mpr z)
    rw [n2 g g1, if_neg g2, v0 g, v1 g1]
    exact Or.inl ⟨by show ¬ ((CM mem p - 48) * 10 + CM mem (p + 1) - 48 = -1); omega, by show _ = (CM mem p - 48) * 10 + CM mem (p + 1) - 48; omega, rfl⟩
  · intro g g1 g2
    have g := d0.mp g
    have g1 := d1.mp g1
    have g2 := d2.mp g2
    have := lt1 g1
    rw [n2 g g1, if_pos g2, v0 g, v1 g1, badM_cu mem _ hw]
    exact Or.inr ⟨rfl, ⟨by omega, by omega⟩, p + 1 + 1, ⟨by omega, by omega⟩, rfl⟩
  · intro g
    have g : ¬ digC (CM mem p) := fun z => g (d0.mpr z)
    rw [n0 g, badM_cu mem _ hw]
    exact Or.inr ⟨rfl, ⟨by decide, by decide⟩, p, ⟨by omega, by omega⟩, rfl⟩
  · exact bytM_cu hb _
  · omega
  · intro _
    exact bytM_cu hb _
  · intro _
    omega
  · intro _
    exact ⟨by omega, by omega⟩
  · intro _
    exact bytM_cu hb _
  · intro _
    rw [cuM_at]
    omega
  · intro _ _
    exact ⟨by omega, by omega⟩
  · intro _ _
    exact bytM_cu hb _
  · intro _ _
    rw [cuM_at]
    omega
