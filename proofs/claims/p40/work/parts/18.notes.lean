/-! notes, marks, laws held: the small calls that change something -/
theorem mset_mset (mem : mmM) (a : Nat) (k v w : Int) : mset (mset mem a k v) a k w = mset mem a k w := by
  funext a' j
  simp only [mset]
  by_cases h : a' = a ∧ j = k
  · rw [if_pos h, if_pos h]
  · rw [if_neg h, if_neg h, if_neg h]
theorem mset_id (mem : mmM) (a : Nat) (k : Int) : mset mem a k (mem a k) = mem := by
  funext a' j
  simp only [mset]
  by_cases h : a' = a ∧ j = k
  · rw [if_pos h, h.1, h.2]
  · rw [if_neg h]
theorem cn_X6_keepImage {d : Nat} {P : mmM → Prop} {mem : mmM} (h : mmT bX6_keepImage d 0 0 (mQv P) 0 [(2, 47)] [] mS mem) : conv bX6_keepImage d [(2, 47)] mem P := mmC_of [(2, 47)] ok_X6_keepImage.2.2.2.2 rfl (Nat.le_of_ble_eq_true rfl) h
theorem bk_X6_keepImage_0 {d : Nat} {P : mmM → Prop} {mem : mmM}
  (q1 : P (mrow (mset (mset mem 47 4 1) 47 5 (mem 47 0)) 49 (fun j => if 0 ≤ j ∧ j < 24 then (mset (mset mem 47 4 1) 47 5 (mem 47 0)) 48 j else (mset (mset mem 47 4 1) 47 5 (mem 47 0)) 49 j)))
  (hd3 : 3 ≤ d := by omega)
  : mmT bX6_keepImage d 0 0 (mQv P) 0 [(2, 47)] [] mS mem := by
  refine st_aload_n (i := 0) rfl (t := 0) rfl (by decide) dX6_keepImage_0 ?_
  refine st_iconst dX6_keepImage_1 ?_
  refine so_putZ 47 4 fr_X6_28_6 pf_6_4 fo_47_4 rfl sh_47 (by decide) dX6_keepImage_2 ?_
  refine st_aload_n (i := 0) rfl (t := 0) rfl (by decide) dX6_keepImage_5 ?_
  refine st_aload_n (i := 0) rfl (t := 0) rfl (by decide) dX6_keepImage_6 ?_
  refine so_getI (v := (mem 47 0)) 47 0 fr_X6_18_6 rfl sh_47 rfl dX6_keepImage_7 (fun r1 => ?_)
  refine so_putI 47 5 fr_X6_51_6 pf_6_5 fo_47_5 rfl sh_47 r1 dX6_keepImage_10 ?_
  refine st_aload_n (i := 0) rfl (t := 0) rfl (by decide) dX6_keepImage_13 ?_
  refine so_getA 47 3 fr_X6_9_6 rfl sh_47 fx_47_3 dX6_keepImage_14 ?_
  refine st_iconst dX6_keepImage_17 ?_
  refine st_aload_n (i := 0) rfl (t := 0) rfl (by decide) dX6_keepImage_18 ?_
  refine so_getA 47 6 fr_X6_15_6 rfl sh_47 fx_47_6 dX6_keepImage_19 ?_
  refine st_iconst dX6_keepImage_22 ?_
  refine st_bipush rfl dX6_keepImage_23 ?_
  refine st_copy (n := 24) 48 49 rfl fr_49 mr_X6_54 ma_nat ma_sta ma_ini rfl rfl rfl rfl rfl sh_48 sh_49 (by decide) (by decide) (by decide) hd3 (Nat.le_of_ble_eq_true rfl) dX6_keepImage_25 ?_
  exact st_return rfl dX6_keepImage_28 (mQv.ret q1)
theorem cn_X6_goBack {d : Nat} {P : mmM → Prop} {mem : mmM} (h : mmT bX6_goBack d 0 0 (mQv P) 0 [(2, 47)] [] mS mem) : conv bX6_goBack d [(2, 47)] mem P := mmC_of [(2, 47)] ok_X6_goBack.2.2.2.2 rfl (Nat.le_of_ble_eq_true rfl) h
theorem bk_X6_goBack_0 {d : Nat} {P : mmM → Prop} {mem : mmM}
  (q1 : P (mrow (mset mem 47 0 (mem 47 5)) 48 (fun j => if 0 ≤ j ∧ j < 24 then (mset mem 47 0 (mem 47 5)) 49 j else (mset mem 47 0 (mem 47 5)) 48 j)))
  (hd3 : 3 ≤ d := by omega)
  : mmT bX6_goBack d 0 0 (mQv P) 0 [(2, 47)] [] mS mem := by
  refine st_aload_n (i := 0) rfl (t := 0) rfl (by decide) dX6_goBack_0 ?_
  refine st_aload_n (i := 0) rfl (t := 0) rfl (by decide) dX6_goBack_1 ?_
  refine so_getI (v := (mem 47 5)) 47 5 fr_X6_51_6 rfl sh_47 rfl dX6_goBack_2 (fun r1 => ?_)
  refine so_putI 47 0 fr_X6_18_6 pf_6_0 fo_47_0 rfl sh_47 r1 dX6_goBack_5 ?_
  refine st_aload_n (i := 0) rfl (t := 0) rfl (by decide) dX6_goBack_8 ?_
  refine so_getA 47 6 fr_X6_15_6 rfl sh_47 fx_47_6 dX6_goBack_9 ?_
  refine st_iconst dX6_goBack_12 ?_
  refine st_aload_n (i := 0) rfl (t := 0) rfl (by decide) dX6_goBack_13 ?_
  refine so_getA 47 3 fr_X6_9_6 rfl sh_47 fx_47_3 dX6_goBack_14 ?_
  refine st_iconst dX6_goBack_17 ?_
  refine st_bipush rfl dX6_goBack_18 ?_
  refine st_copy (n := 24) 49 48 rfl fr_48 mr_X6_54 ma_nat ma_sta ma_ini rfl rfl rfl rfl rfl sh_49 sh_48 (by decide) (by decide) (by decide) hd3 (Nat.le_of_ble_eq_true rfl) dX6_goBack_20 ?_
  exact st_return rfl dX6_goBack_23 (mQv.ret q1)
theorem cn_X6_clear {d : Nat} {P : mmM → Prop} {mem : mmM} (h : mmT bX6_clear d 0 0 (mQv P) 0 [(2, 47)] [] mS mem) : conv bX6_clear d [(2, 47)] mem P := mmC_of [(2, 47)] ok_X6_clear.2.2.2.2 rfl (Nat.le_of_ble_eq_true rfl) h
theorem bk_X6_clear_0 {d : Nat} {P : mmM → Prop} {mem : mmM}
  (q1 : P (mrow (mset (mset (mset (mset mem 47 0 0) 47 1 0) 47 2 0) 47 4 0) 48 (fun j => if 0 ≤ j ∧ j < 24 then 0 else (mset (mset (mset (mset mem 47 0 0) 47 1 0) 47 2 0) 47 4 0) 48 j)))
  (hd2 : 2 ≤ d := by omega)
  : mmT bX6_clear d 0 0 (mQv P) 0 [(2, 47)] [] mS mem := by
  refine st_aload_n (i := 0) rfl (t := 0) rfl (by decide) dX6_clear_0 ?_
  refine st_iconst dX6_clear_1 ?_
  refine so_putI 47 0 fr_X6_18_6 pf_6_0 fo_47_0 rfl sh_47 ⟨by decide, by decide⟩ dX6_clear_2 ?_
  refine st_aload_n (i := 0) rfl (t := 0) rfl (by decide) dX6_clear_5 ?_
  refine st_iconst dX6_clear_6 ?_
  refine so_putI 47 1 fr_X6_22_6 pf_6_1 fo_47_1 rfl sh_47 ⟨by decide, by decide⟩ dX6_clear_7 ?_
  refine st_aload_n (i := 0) rfl (t := 0) rfl (by decide) dX6_clear_10 ?_
  refine st_iconst dX6_clear_11 ?_
  refine so_putI 47 2 fr_X6_25_6 pf_6_2 fo_47_2 rfl sh_47 ⟨by decide, by decide⟩ dX6_clear_12 ?_
  refine st_aload_n (i := 0) rfl (t := 0) rfl (by decide) dX6_clear_15 ?_
  refine st_iconst dX6_clear_16 ?_
  refine so_putZ 47 4 fr_X6_28_6 pf_6_4 fo_47_4 rfl sh_47 (by decide) dX6_clear_17 ?_
  refine st_aload_n (i := 0) rfl (t := 0) rfl (by decide) dX6_clear_20 ?_
  refine so_getA 47 3 fr_X6_9_6 rfl sh_47 fx_47_3 dX6_clear_21 ?_
  refine st_iconst dX6_clear_24 ?_
  refine st_callS (kc2 := 0) (ks2 := 0) (av := [(2, 48), (0, 0)]) mr_X6_32 ok_J7_fill_53178 (c_fill48 (mset (mset (mset (mset mem 47 0 0) 47 1 0) 47 2 0) 47 4 0) 0 (⟨by decide, by decide⟩)) rfl rfl hd2 (Nat.le_refl 0) (Nat.le_refl 0) (Nat.le_of_ble_eq_true rfl) dX6_clear_25 (mQv.elim fun m1 hp => ?_)
  have hp := hp.symm
  subst hp
  exact st_return rfl dX6_clear_28 (mQv.ret q1)
theorem cn_X6_mostLostNotMarked {d : Nat} {P : Int → mmM → Prop} {mem : mmM} (h : mmT bX6_mostLostNotMarked d 0 0 (mQ 0 P) 0 [(2, 47), (9, 0), (9, 0), (9, 0)] [] mS mem) : con 0 bX6_mostLostNotMarked d [(2, 47)] mem P := mmC_of [(2, 47), (9, 0), (9, 0), (9, 0)] ok_X6_mostLostNotMarked.2.2.2.2 rfl (Nat.le_of_ble_eq_true rfl) h
theorem bk_X6_mostLostNotMarked_0 {d : Nat} {P : Int → mmM → Prop} {mem : mmM}
  (k1 : mmT bX6_mostLostNotMarked d 0 0 (mQ 0 P) 6 [(2, 47), (0, (-1)), (0, 0), (0, 0)] [] mS mem)
  : mmT bX6_mostLostNotMarked d 0 0 (mQ 0 P) 0 [(2, 47), (9, 0), (9, 0), (9, 0)] [] mS mem := by
  refine st_iconst dX6_mostLostNotMarked_0 ?_
  refine st_istore_n (i := 1) rfl (by decide) (lc' := [(2, 47), (0, (-1)), (9, 0), (9, 0)]) rfl dX6_mostLostNotMarked_1 ?_
  refine st_iconst dX6_mostLostNotMarked_2 ?_
  refine st_istore_n (i := 2) rfl (by decide) (lc' := [(2, 47), (0, (-1)), (0, 0), (9, 0)]) rfl dX6_mostLostNotMarked_3 ?_
  refine st_iconst dX6_mostLostNotMarked_4 ?_
  refine st_istore_n (i := 3) rfl (by decide) (lc' := [(2, 47), (0, (-1)), (0, 0), (0, 0)]) rfl dX6_mostLostNotMarked_5 ?_
  exact st_locals [(2, 47), (0, (-1)), (0, 0), (0, 0)] ⟨Or.inr rfl, Or.inr rfl, Or.inr rfl, Or.inr rfl, trivial⟩ k1
theorem bk_X6_mostLostNotMarked_6 {d : Nat} {P : Int → mmM → Prop} {mem : mmM} {x1 x2 x3 : Int}
  (k1 : x3 < 24 → (and32 (shr32 (mem 47 0) x3) 1 = 1) → mmT bX6_mostLostNotMarked d 0 0 (mQ 0 P) 6 [(2, 47), (0, x1), (0, x2), (0, (x3 + 1))] [] mS mem)
  (k2 : x3 < 24 → ¬ (and32 (shr32 (mem 47 0) x3) 1 = 1) → (mem 48 x3) ≤ x2 → mmT bX6_mostLostNotMarked d 0 0 (mQ 0 P) 6 [(2, 47), (0, x1), (0, x2), (0, (x3 + 1))] [] mS mem)
  (k3 : x3 < 24 → ¬ (and32 (shr32 (mem 47 0) x3) 1 = 1) → x2 < (mem 48 x3) → mmT bX6_mostLostNotMarked d 0 0 (mQ 0 P) 6 [(2, 47), (0, x3), (0, (mem 48 x3)), (0, (x3 + 1))] [] mS mem)
  (q1 : 24 ≤ x3 → P x1 mem)
  (hd2 : 2 ≤ d := by omega)
  (s1 : R32 x3 := by intros; first | omega | assumption | solve_by_elim)
  (s2 : x3 < 24 → ¬ (and32 (shr32 (mem 47 0) x3) 1 = 1) → 0 ≤ x3 ∧ x3 < 24 := by intros; first | omega | assumption | solve_by_elim)
  (s3 : x3 < 24 → ¬ (and32 (shr32 (mem 47 0) x3) 1 = 1) → R32 x2 := by intros; first | omega | assumption | solve_by_elim)
  : mmT bX6_mostLostNotMarked d 0 0 (mQ 0 P) 6 [(2, 47), (0, x1), (0, x2), (0, x3)] [] mS mem := by
  refine st_iload_n (i := 3) rfl rfl dX6_mostLostNotMarked_6 ?_
  refine st_aload_n (i := 0) rfl (t := 0) rfl (by decide) dX6_mostLostNotMarked_7 ?_
  refine so_getA 47 3 fr_X6_9_6 rfl sh_47 fx_47_3 dX6_mostLostNotMarked_8 ?_
  refine so_alen (v := 24) 48 rfl sh_48 (by decide) rfl dX6_mostLostNotMarked_11 ?_
  refine sr_icmp_ge 48 s1 ⟨by decide, by decide⟩ (by decide) dX6_mostLostNotMarked_12 (fun h1 => ?_) (fun h1 => ?_)
  · have h1 : 24 ≤ x3 := by omega
    refine st_iload_n (i := 1) rfl rfl dX6_mostLostNotMarked_48 ?_
    exact st_ireturn rfl dX6_mostLostNotMarked_49 (mQ.ret (q1 h1))
  · have h1 : x3 < 24 := by omega
    refine st_aload_n (i := 0) rfl (t := 0) rfl (by decide) dX6_mostLostNotMarked_15 ?_
    refine st_iload_n (i := 3) rfl rfl dX6_mostLostNotMarked_16 ?_
    refine st_callV (kc2 := 0) (ks2 := 0) (av := [(0, x3)]) 47 6 mr_X6_47 ok_X6_isMarked (c_X6_isMarked mem x3 ) rfl sh_47 ⟨_, rfl, rfl, by decide⟩ rfl rfl hd2 (Nat.le_refl 0) (Nat.le_refl 0) (Nat.le_of_ble_eq_true rfl) dX6_mostLostNotMarked_17 (mQ.elim fun v1 m1 hp => ?_)
    obtain ⟨hpv, hpm⟩ := hp
    subst hpv
    have hpm := hpm.symm
    subst hpm
    refine so_ifneB 42 (by decide) dX6_mostLostNotMarked_20 (fun h2 => ?_) (fun h2 => ?_)
    · have h2 : (and32 (shr32 (mem 47 0) x3) 1 = 1) := h2
      refine st_iinc (y := (x3 + 1)) (by decide) (i := 3) rfl rfl (lc' := [(2, 47), (0, x1), (0, x2), (0, (x3 + 1))]) rfl dX6_mostLostNotMarked_42 ?_
      refine st_goto 6 (by decide) dX6_mostLostNotMarked_45 ?_
      exact st_locals [(2, 47), (0, x1), (0, x2), (0, (x3 + 1))] ⟨Or.inr rfl, Or.inr rfl, Or.inr rfl, Or.inr rfl, trivial⟩ (k1 h1 h2)
    · have h2 : ¬ (and32 (shr32 (mem 47 0) x3) 1 = 1) := h2
      refine st_aload_n (i := 0) rfl (t := 0) rfl (by decide) dX6_mostLostNotMarked_23 ?_
      refine so_getA 47 3 fr_X6_9_6 rfl sh_47 fx_47_3 dX6_mostLostNotMarked_24 ?_
      refine st_iload_n (i := 3) rfl rfl dX6_mostLostNotMarked_27 ?_
      refine so_iald (v := (mem 48 x3)) 48 rfl sh_48 (by decide) (s2 h1 h2) rfl dX6_mostLostNotMarked_28 (fun r1 => ?_)
      refine st_iload_n (i := 2) rfl rfl dX6_mostLostNotMarked_29 ?_
      refine sr_icmp_le 42 r1 (s3 h1 h2) (by decide) dX6_mostLostNotMarked_30 (fun h3 => ?_) (fun h3 => ?_)
      · have h3 : (mem 48 x3) ≤ x2 := by omega
        refine st_iinc (y := (x3 + 1)) (by decide) (i := 3) rfl rfl (lc' := [(2, 47), (0, x1), (0, x2), (0, (x3 + 1))]) rfl dX6_mostLostNotMarked_42 ?_
        refine st_goto 6 (by decide) dX6_mostLostNotMarked_45 ?_
        exact st_locals [(2, 47), (0, x1), (0, x2), (0, (x3 + 1))] ⟨Or.inr rfl, Or.inr rfl, Or.inr rfl, Or.inr rfl, trivial⟩ (k2 h1 h2 h3)
      · have h3 : x2 < (mem 48 x3) := by omega
        refine st_aload_n (i := 0) rfl (t := 0) rfl (by decide) dX6_mostLostNotMarked_33 ?_
        refine so_getA 47 3 fr_X6_9_6 rfl sh_47 fx_47_3 dX6_mostLostNotMarked_34 ?_
        refine st_iload_n (i := 3) rfl rfl dX6_mostLostNotMarked_37 ?_
        refine so_iald (v := (mem 48 x3)) 48 rfl sh_48 (by decide) (s2 h1 h2) rfl dX6_mostLostNotMarked_38 (fun r2 => ?_)
        refine st_istore_n (i := 2) rfl (by decide) (lc' := [(2, 47), (0, x1), (0, (mem 48 x3)), (0, x3)]) rfl dX6_mostLostNotMarked_39 ?_
        refine st_iload_n (i := 3) rfl rfl dX6_mostLostNotMarked_40 ?_
        refine st_istore_n (i := 1) rfl (by decide) (lc' := [(2, 47), (0, x3), (0, (mem 48 x3)), (0, x3)]) rfl dX6_mostLostNotMarked_41 ?_
        refine st_iinc (y := (x3 + 1)) (by decide) (i := 3) rfl rfl (lc' := [(2, 47), (0, x3), (0, (mem 48 x3)), (0, (x3 + 1))]) rfl dX6_mostLostNotMarked_42 ?_
        refine st_goto 6 (by decide) dX6_mostLostNotMarked_45 ?_
        exact st_locals [(2, 47), (0, x3), (0, (mem 48 x3)), (0, (x3 + 1))] ⟨Or.inr rfl, Or.inr rfl, Or.inr rfl, Or.inr rfl, trivial⟩ (k3 h1 h2 h3)
theorem cn_X6_markMostLost {d : Nat} {P : mmM → Prop} {mem : mmM} {x1 : Int} (h : mmT bX6_markMostLost d 0 0 (mQv P) 0 [(2, 47), (0, x1), (9, 0), (9, 0)] [] mS mem) : conv bX6_markMostLost d [(2, 47), (0, x1)] mem P := mmC_of [(2, 47), (0, x1), (9, 0), (9, 0)] ok_X6_markMostLost.2.2.2.2 rfl (Nat.le_of_ble_eq_true rfl) h
theorem bk_X6_markMostLost_0 {d : Nat} {P : mmM → Prop} {mem : mmM} {x1 : Int}
  (k1 : mmT bX6_markMostLost d 0 0 (mQv P) 7 [(2, 47), (0, x1), (0, 0), (9, 0)] [] mS (mset mem 47 0 0))
  : mmT bX6_markMostLost d 0 0 (mQv P) 0 [(2, 47), (0, x1), (9, 0), (9, 0)] [] mS mem := by
  refine st_aload_n (i := 0) rfl (t := 0) rfl (by decide) dX6_markMostLost_0 ?_
  refine st_iconst dX6_markMostLost_1 ?_
  refine so_putI 47 0 fr_X6_18_6 pf_6_0 fo_47_0 rfl sh_47 ⟨by decide, by decide⟩ dX6_markMostLost_2 ?_
  refine st_iconst dX6_markMostLost_5 ?_
  refine st_istore_n (i := 2) rfl (by decide) (lc' := [(2, 47), (0, x1), (0, 0), (9, 0)]) rfl dX6_markMostLost_6 ?_
  exact st_locals [(2, 47), (0, x1), (0, 0), (9, 0)] ⟨Or.inr rfl, Or.inr rfl, Or.inr rfl, Or.inl rfl, trivial⟩ k1
theorem bk_X6_markMostLost_7 {d : Nat} {d1 : Nat} {P1 : Int → mmM → Prop} {P : mmM → Prop} {mem : mmM} {x1 x2 : Int}
  (c1 : x2 < x1 → con 0 bX6_mostLostNotMarked d1 [(2, 47)] mem P1)
  (k1 : x2 < x1 → ∀ (v1 : Int), ∀ (m1 : mmM), P1 v1 m1 → ¬ v1 = (-1) → mmT bX6_markMostLost d 0 0 (mQv P) 7 [(2, 47), (0, x1), (0, (x2 + 1)), (9, 0)] [] mS (mset m1 47 0 (or32 (m1 47 0) (shl32 1 v1))))
  (q1 : x1 ≤ x2 → P mem)
  (q2 : x2 < x1 → ∀ (v1 : Int), ∀ (m1 : mmM), P1 v1 m1 → v1 = (-1) → P m1)
  (hd_d1 : d1 + 1 ≤ d := by omega)
  (s1 : R32 x2 := by intros; first | omega | assumption | solve_by_elim)
  (s2 : R32 x1 := by intros; first | omega | assumption | solve_by_elim)
  (s3 : x2 < x1 → ∀ (v1 : Int), ∀ (m1 : mmM), P1 v1 m1 → R32 v1 := by intros; first | omega | assumption | solve_by_elim)
  : mmT bX6_markMostLost d 0 0 (mQv P) 7 [(2, 47), (0, x1), (0, x2), (9, 0)] [] mS mem := by
  refine st_iload_n (i := 2) rfl rfl dX6_markMostLost_7 ?_
  refine st_iload_n (i := 1) rfl rfl dX6_markMostLost_8 ?_
  refine sr_icmp_ge 41 s1 s2 (by decide) dX6_markMostLost_9 (fun h1 => ?_) (fun h1 => ?_)
  · have h1 : x1 ≤ x2 := by omega
    exact st_return rfl dX6_markMostLost_41 (mQv.ret (q1 h1))
  · have h1 : x2 < x1 := by omega
    refine st_aload_n (i := 0) rfl (t := 0) rfl (by decide) dX6_markMostLost_12 ?_
    refine st_callV (kc2 := 0) (ks2 := 0) (av := []) 47 6 mr_X6_43 ok_X6_mostLostNotMarked (c1 h1) rfl sh_47 ⟨_, rfl, rfl, by decide⟩ rfl rfl hd_d1 (Nat.le_refl 0) (Nat.le_refl 0) (Nat.le_of_ble_eq_true rfl) dX6_markMostLost_13 (mQ.elim fun v1 m1 p1 => ?_)
    refine st_istore_n (i := 3) rfl (by decide) (lc' := [(2, 47), (0, x1), (0, x2), (0, v1)]) rfl dX6_markMostLost_16 ?_
    refine st_iload_n (i := 3) rfl rfl dX6_markMostLost_17 ?_
    refine st_iconst dX6_markMostLost_18 ?_
    refine sr_icmp_ne 23 (s3 h1 v1 m1 p1) ⟨by decide, by decide⟩ (by decide) dX6_markMostLost_19 (fun h2 => ?_) (fun h2 => ?_)
    · have h2 : ¬ v1 = (-1) := by omega
      refine st_aload_n (i := 0) rfl (t := 0) rfl (by decide) dX6_markMostLost_23 ?_
      refine st_dup (by decide) dX6_markMostLost_24 ?_
      refine so_getI (v := (m1 47 0)) 47 0 fr_X6_18_6 rfl sh_47 rfl dX6_markMostLost_25 (fun r1 => ?_)
      refine st_iconst dX6_markMostLost_28 ?_
      refine st_iload_n (i := 3) rfl rfl dX6_markMostLost_29 ?_
      refine st_ishl dX6_markMostLost_30 ?_
      refine st_ior dX6_markMostLost_31 ?_
      refine so_putI 47 0 fr_X6_18_6 pf_6_0 fo_47_0 rfl sh_47 (or32_rng (m1 47 0) (shl32 1 v1)) dX6_markMostLost_32 ?_
      refine st_iinc (y := (x2 + 1)) (by decide) (i := 2) rfl rfl (lc' := [(2, 47), (0, x1), (0, (x2 + 1)), (0, v1)]) rfl dX6_markMostLost_35 ?_
      refine st_goto 7 (by decide) dX6_markMostLost_38 ?_
      exact st_locals [(2, 47), (0, x1), (0, (x2 + 1)), (9, 0)] ⟨Or.inr rfl, Or.inr rfl, Or.inr rfl, Or.inl rfl, trivial⟩ (k1 h1 v1 m1 p1 h2)
    · have h2 : v1 = (-1) := by omega
      exact st_return rfl dX6_markMostLost_22 (mQv.ret (q2 h1 v1 m1 p1 h2))
def imgX (mem : mmM) : mmM := mrow (mset (mset mem 47 4 1) 47 5 (mem 47 0)) 49 (fun j => if 0 ≤ j ∧ j < 24 then mem 48 j else mem 49 j)
def backX (mem : mmM) : mmM := mrow (mset mem 47 0 (mem 47 5)) 48 (fun j => if 0 ≤ j ∧ j < 24 then mem 49 j else mem 48 j)
def clearX (mem : mmM) : mmM := mrow (mset (mset (mset (mset mem 47 0 0) 47 1 0) 47 2 0) 47 4 0) 48 (fun j => if 0 ≤ j ∧ j < 24 then 0 else mem 48 j)
theorem c_X6_keepImage (mem : mmM) : conv bX6_keepImage 3 [(2, 47)] mem (fun m => m = imgX mem) := by
  refine cn_X6_keepImage (bk_X6_keepImage_0 ?_)
  rfl
theorem c_X6_goBack (mem : mmM) : conv bX6_goBack 3 [(2, 47)] mem (fun m => m = backX mem) := by
  refine cn_X6_goBack (bk_X6_goBack_0 ?_)
  rfl
theorem c_X6_clear (mem : mmM) : conv bX6_clear 2 [(2, 47)] mem (fun m => m = clearX mem) := by
  refine cn_X6_clear (bk_X6_clear_0 ?_)
  rfl
/-- the place most lost that is not marked -/
def mostG (mk : Int) (l : Int → Int) (p : Int × Int) (i : Int) : Int × Int := if ¬ (and32 (shr32 mk i) 1 = 1) ∧ p.2 < l i then (i, l i) else p
def mostP (n : Int) (mk : Int) (l : Int → Int) : Int × Int := foldTo (mostG mk l) (-1, 0) n.toNat
def learnF (n : Int) (l : Int → Int) (k : Int) : Int := foldTo (fun mk _ => if (mostP n mk l).1 = -1 then mk else or32 mk (shl32 1 (mostP n mk l).1)) 0 k.toNat
theorem mostP_spec (n : Int) (mk : Int) (l : Int → Int) (hn : 0 ≤ n) : ((mostP n mk l).1 = -1 ∧ (mostP n mk l).2 = 0) ∨ ((0 ≤ (mostP n mk l).1 ∧ (mostP n mk l).1 < n) ∧ (mostP n mk l).2 = l (mostP n mk l).1 ∧ 0 < (mostP n mk l).2) := by
  have := foldTo_inv (g := mostG mk l) (z := (-1, 0)) (n := n.toNat) (fun i p => (p.1 = -1 ∧ p.2 = 0) ∨ ((0 ≤ p.1 ∧ p.1 < i) ∧ p.2 = l p.1 ∧ 0 < p.2)) (Or.inl ⟨rfl, rfl⟩) (fun i a g0 g1 ha => by
    unfold mostG
    split
    · rename_i g
      refine Or.inr ⟨⟨g0, by show i < i + 1; omega⟩, rfl, ?_⟩
      show 0 < l i
      omega
    · rcases ha with ha | ha
      · exact Or.inl ha
      · exact Or.inr ⟨⟨ha.1.1, by omega⟩, ha.2⟩)
  rw [show ((n.toNat : Nat) : Int) = n by omega] at this
  exact this
theorem mostP_more (n k : Int) (mk : Int) (l : Int → Int) (hn : 0 ≤ n) (hk : n ≤ k) (hl : ∀ i, n ≤ i → i < k → l i = 0) : mostP k mk l = mostP n mk l := by
  have : ∀ t : Nat, n + t ≤ k → mostP (n + t) mk l = mostP n mk l := by
    intro t
    induction t with
    | zero => intro _; rw [show n + ((0 : Nat) : Int) = n by omega]
    | succ t ih =>
      intro h
      have e : mostP (n + ((t + 1 : Nat) : Int)) mk l = mostG mk l (mostP (n + t) mk l) (n + t) := by
        unfold mostP
        rw [show n + ((t + 1 : Nat) : Int) = n + t + 1 by omega]
        exact foldTo_step _ _ (by omega)
      rw [e, ih (by omega)]
      have s := mostP_spec n mk l hn
      have z := hl (n + t) (by omega) (by omega)
      unfold mostG
      rw [if_neg (by omega)]
  have := this (k - n).toNat (by omega)
  rw [show n + (((k - n).toNat : Nat) : Int) = k by omega] at this
  exact this
theorem mostP_congr {n : Int} {mk : Int} {l l' : Int → Int} (h : ∀ i, 0 ≤ i → i < n → l i = l' i) : mostP n mk l = mostP n mk l' := by
  refine foldTo_congr (fun i a h0 h1 => ?_)
  unfold mostG
  rw [h i h0 (by omega)]
theorem learnF_rng (n : Int) (l : Int → Int) (k : Int) : R32 (learnF n l k) := by
  unfold learnF
  generalize k.toNat = t
  induction t with
  | zero =>
    show R32 0
    omega
  | succ t ih =>
    show R32 (if _ then _ else _)
    split
    · exact ih
    · exact or32_rng _ _
theorem learnF_step (n : Int) (l : Int → Int) {k : Int} (h : 0 ≤ k) : learnF n l (k + 1) = if (mostP n (learnF n l k) l).1 = -1 then learnF n l k else or32 (learnF n l k) (shl32 1 (mostP n (learnF n l k) l).1) := foldTo_step _ _ h
theorem learnF_stop (n : Int) (l : Int → Int) {i k : Int} (h0 : 0 ≤ i) (h : i ≤ k) (hs : (mostP n (learnF n l i) l).1 = -1) : learnF n l k = learnF n l i := by
  have : ∀ t : Nat, learnF n l (i + t) = learnF n l i := by
    intro t
    induction t with
    | zero => rw [show i + ((0 : Nat) : Int) = i by omega]
    | succ t ih =>
      rw [show i + ((t + 1 : Nat) : Int) = i + t + 1 by omega, learnF_step _ _ (by omega), ih, if_pos hs]
  have := this (k - i).toNat
  rw [show i + (((k - i).toNat : Nat) : Int) = k by omega] at this
  exact this
theorem learnF_congr {n : Int} {l l' : Int → Int} {k : Int} (h : ∀ i, 0 ≤ i → i < n → l i = l' i) : learnF n l k = learnF n l' k := by
  refine foldTo_congr (fun i a h0 h1 => ?_)
  rw [mostP_congr h]
theorem c_X6_mostLostNotMarked (mem : mmM) (hl : ∀ i, 0 ≤ i → i < 24 → 0 ≤ mem 48 i ∧ mem 48 i < 2147483648) : con 0 bX6_mostLostNotMarked 2 [(2, 47)] mem (fun v m => v = (mostP 24 (mem 47 0) (mem 48)).1 ∧ m = mem) := by
  refine cn_X6_mostLostNotMarked (bk_X6_mostLostNotMarked_0 ?_)
  refine loop_up (n := 24) (fun i => ∀ p q, (p, q) = foldTo (mostG (mem 47 0) (mem 48)) (-1, 0) i.toNat → (0 ≤ q ∧ q < 2147483648) → mmT bX6_mostLostNotMarked 2 0 0 (mQ 0 (fun v m => v = (mostP 24 (mem 47 0) (mem 48)).1 ∧ m = mem)) 6 [(2, 47), (0, p), (0, q), (0, i)] [] mS mem) (fun i h0 h1 ih p q ha hq => ?_) 0 (by omega) (by omega) (-1) 0 rfl (by omega)
  have hli := hl i h0
  refine bk_X6_mostLostNotMarked_6 (fun g g2 => ih g _ _ ?_ (by omega)) (fun g g2 g3 => ih g _ _ ?_ (by omega)) (fun g g2 g3 => ih g _ _ ?_ (by omega)) (fun g => ⟨?_, rfl⟩)
  · rw [foldTo_step _ _ h0, ← ha]
    unfold mostG
    rw [if_neg (fun z => z.1 g2)]
  · rw [foldTo_step _ _ h0, ← ha]
    unfold mostG
    rw [if_neg (fun z => by have : q < _ := z.2; omega)]
  · rw [foldTo_step _ _ h0, ← ha]
    unfold mostG
    rw [if_pos ⟨g2, g3⟩]
  · rw [show i = 24 by omega] at ha
    unfold mostP
    rw [← ha]
theorem c_X6_markMostLost (mem : mmM) (x1 : Int) (h1 : 0 ≤ x1 ∧ x1 ≤ 24) (hl : ∀ i, 0 ≤ i → i < 24 → 0 ≤ mem 48 i ∧ mem 48 i < 2147483648) : conv bX6_markMostLost 3 [(2, 47), (0, x1)] mem (fun m => m = mset mem 47 0 (learnF 24 (mem 48) x1)) := by
  refine cn_X6_markMostLost (bk_X6_markMostLost_0 ?_)
  refine loop_up (n := x1) (fun i => ∀ m, m = mset mem 47 0 (learnF 24 (mem 48) i) → mmT bX6_markMostLost 3 0 0 (mQv (fun m => m = mset mem 47 0 (learnF 24 (mem 48) x1))) 7 [(2, 47), (0, x1), (0, i), (9, 0)] [] mS m) (fun i h0 h1 ih m hm => ?_) 0 (by omega) (by omega) _ rfl
  have e48 : m 48 = mem 48 := by rw [hm]; exact mset_ne (by decide)
  have e47 : m 47 0 = learnF 24 (mem 48) i := by rw [hm]; exact mset_same _ _ _ _
  have cb := c_X6_mostLostNotMarked m (by rw [e48]; exact hl)
  rw [e48, e47] at cb
  have s := mostP_spec 24 (learnF 24 (mem 48) i) (mem 48) (by decide)
  refine bk_X6_markMostLost_7 (fun g => cb) (fun g v m' q g2 => ih g _ ?_) (fun g => ?_) (fun g v m' q g2 => ?_) (s3 := fun g v m' q => by have := q.1; omega)
  · rw [q.2, e47, hm, mset_mset, learnF_step _ _ h0, if_neg (by have := q.1; omega), q.1]
  · rw [hm, show i = x1 by omega]
  · rw [q.2, hm, learnF_stop 24 (mem 48) h0 h1 (by have := q.1; omega)]
theorem cn_X11_image {d : Nat} {P : Int → mmM → Prop} {mem : mmM} (h : mmT bX11_image d 0 0 (mQ 0 P) 0 [(2, 0)] [] mS mem) : con 0 bX11_image d [(2, 0)] mem P := mmC_of [(2, 0)] ok_X11_image.2.2.2.2 rfl (Nat.le_of_ble_eq_true rfl) h
theorem bk_X11_image_0 {d : Nat} {P : Int → mmM → Prop} {mem : mmM}
  (q1 : ¬ (mem 23 1) = 0 → P (bcS ((imgX mem) 47 0)) (imgX mem))
  (q2 : (mem 23 1) = 0 → P (-1) mem)
  (hd2 : 2 ≤ d := by omega)
  (hd4 : 4 ≤ d := by omega)
  : mmT bX11_image d 0 0 (mQ 0 P) 0 [(2, 0)] [] mS mem := by
  refine st_aload_n (i := 0) rfl (t := 0) rfl (by decide) dX11_image_0 ?_
  refine so_getA 0 4 fr_X11_42_10 rfl sh_0 fx_0_4 dX11_image_1 ?_
  refine so_getI (v := (mem 23 1)) 23 1 fr_X11_135_8 rfl sh_23 rfl dX11_image_4 (fun r1 => ?_)
  refine sr_if_ne 12 r1 (by decide) dX11_image_7 (fun h1 => ?_) (fun h1 => ?_)
  · have h1 : ¬ (mem 23 1) = 0 := by omega
    refine st_aload_n (i := 0) rfl (t := 0) rfl (by decide) dX11_image_12 ?_
    refine so_getA 0 6 fr_X11_58_10 rfl sh_0 fx_0_6 dX11_image_13 ?_
    refine st_callV (kc2 := 0) (ks2 := 0) (av := []) 47 6 mr_X11_336 ok_X6_keepImage (c_X6_keepImage mem ) rfl sh_47 ⟨_, rfl, rfl, by decide⟩ rfl rfl hd4 (Nat.le_refl 0) (Nat.le_refl 0) (Nat.le_of_ble_eq_true rfl) dX11_image_16 (mQv.elim fun m1 hp => ?_)
    have hp := hp.symm
    subst hp
    refine st_aload_n (i := 0) rfl (t := 0) rfl (by decide) dX11_image_19 ?_
    refine so_getA 0 6 fr_X11_58_10 rfl sh_0 fx_0_6 dX11_image_20 ?_
    refine so_getI (v := ((imgX mem) 47 0)) 47 0 fr_X11_188_6 rfl sh_47 rfl dX11_image_23 (fun r2 => ?_)
    refine st_callS (kc2 := 0) (ks2 := 0) (av := [(0, ((imgX mem) 47 0))]) mr_X11_242 ok_J6_bitCount_0f7a4 (c_bitCount (imgX mem) ((imgX mem) 47 0) ) rfl rfl hd2 (Nat.le_refl 0) (Nat.le_refl 0) (Nat.le_of_ble_eq_true rfl) dX11_image_26 (mQ.elim fun v1 m2 hp => ?_)
    obtain ⟨hpv, hpm⟩ := hp
    subst hpv
    have hpm := hpm.symm
    subst hpm
    exact st_ireturn rfl dX11_image_29 (mQ.ret (q1 h1))
  · have h1 : (mem 23 1) = 0 := by omega
    refine st_iconst dX11_image_10 ?_
    exact st_ireturn rfl dX11_image_11 (mQ.ret (q2 h1))
theorem cn_X11_back {d : Nat} {P : Int → mmM → Prop} {mem : mmM} (h : mmT bX11_back d 0 0 (mQ 0 P) 0 [(2, 0)] [] mS mem) : con 0 bX11_back d [(2, 0)] mem P := mmC_of [(2, 0)] ok_X11_back.2.2.2.2 rfl (Nat.le_of_ble_eq_true rfl) h
theorem bk_X11_back_0 {d : Nat} {P : Int → mmM → Prop} {mem : mmM}
  (q1 : ¬ (mem 47 4) = 0 → P (bcS ((backX mem) 47 0)) (backX mem))
  (q2 : (mem 47 4) = 0 → P (-1) mem)
  (hd2 : 2 ≤ d := by omega)
  (hd4 : 4 ≤ d := by omega)
  : mmT bX11_back d 0 0 (mQ 0 P) 0 [(2, 0)] [] mS mem := by
  refine st_aload_n (i := 0) rfl (t := 0) rfl (by decide) dX11_back_0 ?_
  refine so_getA 0 6 fr_X11_58_10 rfl sh_0 fx_0_6 dX11_back_1 ?_
  refine so_getI (v := (mem 47 4)) 47 4 fr_X11_339_6 rfl sh_47 rfl dX11_back_4 (fun r1 => ?_)
  refine sr_if_ne 12 r1 (by decide) dX11_back_7 (fun h1 => ?_) (fun h1 => ?_)
  · have h1 : ¬ (mem 47 4) = 0 := by omega
    refine st_aload_n (i := 0) rfl (t := 0) rfl (by decide) dX11_back_12 ?_
    refine so_getA 0 6 fr_X11_58_10 rfl sh_0 fx_0_6 dX11_back_13 ?_
    refine st_callV (kc2 := 0) (ks2 := 0) (av := []) 47 6 mr_X11_343 ok_X6_goBack (c_X6_goBack mem ) rfl sh_47 ⟨_, rfl, rfl, by decide⟩ rfl rfl hd4 (Nat.le_refl 0) (Nat.le_refl 0) (Nat.le_of_ble_eq_true rfl) dX11_back_16 (mQv.elim fun m1 hp => ?_)
    have hp := hp.symm
    subst hp
    refine st_aload_n (i := 0) rfl (t := 0) rfl (by decide) dX11_back_19 ?_
    refine so_getA 0 6 fr_X11_58_10 rfl sh_0 fx_0_6 dX11_back_20 ?_
    refine so_getI (v := ((backX mem) 47 0)) 47 0 fr_X11_188_6 rfl sh_47 rfl dX11_back_23 (fun r2 => ?_)
    refine st_callS (kc2 := 0) (ks2 := 0) (av := [(0, ((backX mem) 47 0))]) mr_X11_242 ok_J6_bitCount_0f7a4 (c_bitCount (backX mem) ((backX mem) 47 0) ) rfl rfl hd2 (Nat.le_refl 0) (Nat.le_refl 0) (Nat.le_of_ble_eq_true rfl) dX11_back_26 (mQ.elim fun v1 m2 hp => ?_)
    obtain ⟨hpv, hpm⟩ := hp
    subst hpv
    have hpm := hpm.symm
    subst hpm
    exact st_ireturn rfl dX11_back_29 (mQ.ret (q1 h1))
  · have h1 : (mem 47 4) = 0 := by omega
    refine st_iconst dX11_back_10 ?_
    exact st_ireturn rfl dX11_back_11 (mQ.ret (q2 h1))
theorem cn_X11_learn {d : Nat} {P : Int → mmM → Prop} {mem : mmM} {x1 : Int} (h : mmT bX11_learn d 0 0 (mQ 0 P) 0 [(2, 0), (0, x1)] [] mS mem) : con 0 bX11_learn d [(2, 0), (0, x1)] mem P := mmC_of [(2, 0), (0, x1)] ok_X11_learn.2.2.2.2 rfl (Nat.le_of_ble_eq_true rfl) h
theorem bk_X11_learn_0 {d : Nat} {d1 : Nat} {P1 : mmM → Prop} {P : Int → mmM → Prop} {mem : mmM} {x1 : Int}
  (c1 : ¬ (mem 23 1) = 0 → 0 ≤ x1 → x1 ≤ 24 → conv bX6_markMostLost d1 [(2, 47), (0, x1)] mem P1)
  (q1 : (mem 23 1) = 0 → P (-1) mem)
  (q2 : ¬ (mem 23 1) = 0 → x1 < 0 → P (-1) mem)
  (q3 : ¬ (mem 23 1) = 0 → 0 ≤ x1 → x1 ≤ 24 → ∀ (m1 : mmM), P1 m1 → P (bcS (m1 47 0)) m1)
  (q4 : ¬ (mem 23 1) = 0 → 0 ≤ x1 → 24 < x1 → P (-1) mem)
  (hd_d1 : d1 + 1 ≤ d := by omega)
  (hd2 : 2 ≤ d := by omega)
  (s1 : ¬ (mem 23 1) = 0 → R32 x1 := by intros; first | omega | assumption | solve_by_elim)
  : mmT bX11_learn d 0 0 (mQ 0 P) 0 [(2, 0), (0, x1)] [] mS mem := by
  refine st_aload_n (i := 0) rfl (t := 0) rfl (by decide) dX11_learn_0 ?_
  refine so_getA 0 4 fr_X11_42_10 rfl sh_0 fx_0_4 dX11_learn_1 ?_
  refine so_getI (v := (mem 23 1)) 23 1 fr_X11_135_8 rfl sh_23 rfl dX11_learn_4 (fun r1 => ?_)
  refine sr_if_eq 20 r1 (by decide) dX11_learn_7 (fun h1 => ?_) (fun h1 => ?_)
  · have h1 : (mem 23 1) = 0 := by omega
    refine st_iconst dX11_learn_20 ?_
    exact st_ireturn rfl dX11_learn_21 (mQ.ret (q1 h1))
  · have h1 : ¬ (mem 23 1) = 0 := by omega
    refine st_iload_n (i := 1) rfl rfl dX11_learn_10 ?_
    refine sr_if_lt 20 (s1 h1) (by decide) dX11_learn_11 (fun h2 => ?_) (fun h2 => ?_)
    · have h2 : x1 < 0 := by omega
      refine st_iconst dX11_learn_20 ?_
      exact st_ireturn rfl dX11_learn_21 (mQ.ret (q2 h1 h2))
    · have h2 : 0 ≤ x1 := by omega
      refine st_iload_n (i := 1) rfl rfl dX11_learn_14 ?_
      refine st_bipush rfl dX11_learn_15 ?_
      refine sr_icmp_le 22 (s1 h1) ⟨by decide, by decide⟩ (by decide) dX11_learn_17 (fun h3 => ?_) (fun h3 => ?_)
      · have h3 : x1 ≤ 24 := by omega
        refine st_aload_n (i := 0) rfl (t := 0) rfl (by decide) dX11_learn_22 ?_
        refine so_getA 0 6 fr_X11_58_10 rfl sh_0 fx_0_6 dX11_learn_23 ?_
        refine st_iload_n (i := 1) rfl rfl dX11_learn_26 ?_
        refine st_callV (kc2 := 0) (ks2 := 0) (av := [(0, x1)]) 47 6 mr_X11_239 ok_X6_markMostLost (c1 h1 h2 h3) rfl sh_47 ⟨_, rfl, rfl, by decide⟩ rfl rfl hd_d1 (Nat.le_refl 0) (Nat.le_refl 0) (Nat.le_of_ble_eq_true rfl) dX11_learn_27 (mQv.elim fun m1 p1 => ?_)
        refine st_aload_n (i := 0) rfl (t := 0) rfl (by decide) dX11_learn_30 ?_
        refine so_getA 0 6 fr_X11_58_10 rfl sh_0 fx_0_6 dX11_learn_31 ?_
        refine so_getI (v := (m1 47 0)) 47 0 fr_X11_188_6 rfl sh_47 rfl dX11_learn_34 (fun r2 => ?_)
        refine st_callS (kc2 := 0) (ks2 := 0) (av := [(0, (m1 47 0))]) mr_X11_242 ok_J6_bitCount_0f7a4 (c_bitCount m1 (m1 47 0) ) rfl rfl hd2 (Nat.le_refl 0) (Nat.le_refl 0) (Nat.le_of_ble_eq_true rfl) dX11_learn_37 (mQ.elim fun v1 m2 hp => ?_)
        obtain ⟨hpv, hpm⟩ := hp
        subst hpv
        have hpm := hpm.symm
        subst hpm
        exact st_ireturn rfl dX11_learn_40 (mQ.ret (q3 h1 h2 h3 m1 p1))
      · have h3 : 24 < x1 := by omega
        refine st_iconst dX11_learn_20 ?_
        exact st_ireturn rfl dX11_learn_21 (mQ.ret (q4 h1 h2 h3))
theorem cn_X11_set {d : Nat} {P : Int → mmM → Prop} {mem : mmM} {x1 x2 x3 : Int} (h : mmT bX11_set d 0 0 (mQ 0 P) 0 [(2, 0), (0, x1), (0, x2), (0, x3)] [] mS mem) : con 0 bX11_set d [(2, 0), (0, x1), (0, x2), (0, x3)] mem P := mmC_of [(2, 0), (0, x1), (0, x2), (0, x3)] ok_X11_set.2.2.2.2 rfl (Nat.le_of_ble_eq_true rfl) h
theorem bk_X11_set_0 {d : Nat} {d1 : Nat} {P1 : mmM → Prop} {P : Int → mmM → Prop} {mem : mmM} {x1 x2 x3 : Int}
  (c1 : (0 ≤ x1 ∧ x1 < 8) → 0 ≤ x3 → x2 = 0 → x3 ≤ 3 → conv bX4_plan d1 [(2, 35)] (mset mem 36 x1 x3) P1)
  (q1 : ¬ (0 ≤ x1 ∧ x1 < 8) → P 0 mem)
  (q2 : (0 ≤ x1 ∧ x1 < 8) → 0 ≤ x3 → ¬ x2 = 0 → ¬ x2 = 1 → P 0 mem)
  (q3 : (0 ≤ x1 ∧ x1 < 8) → 0 ≤ x3 → ¬ x2 = 0 → x2 = 1 → 100 < x3 → P 0 mem)
  (q4 : (0 ≤ x1 ∧ x1 < 8) → 0 ≤ x3 → ¬ x2 = 0 → x2 = 1 → x3 ≤ 100 → P 1 (mset mem 37 x1 x3))
  (q5 : (0 ≤ x1 ∧ x1 < 8) → 0 ≤ x3 → x2 = 0 → 3 < x3 → ¬ x2 = 1 → P 0 mem)
  (q6 : (0 ≤ x1 ∧ x1 < 8) → 0 ≤ x3 → x2 = 0 → 3 < x3 → x2 = 1 → 100 < x3 → P 0 mem)
  (q7 : (0 ≤ x1 ∧ x1 < 8) → 0 ≤ x3 → x2 = 0 → 3 < x3 → x2 = 1 → x3 ≤ 100 → P 1 (mset mem 37 x1 x3))
  (q8 : (0 ≤ x1 ∧ x1 < 8) → 0 ≤ x3 → x2 = 0 → x3 ≤ 3 → ∀ (m2 : mmM), P1 m2 → P 1 m2)
  (q9 : (0 ≤ x1 ∧ x1 < 8) → x3 < 0 → P 0 mem)
  (hd_d1 : d1 + 1 ≤ d := by omega)
  (hd2 : 2 ≤ d := by omega)
  (s1 : R32 x1 := by intros; first | omega | assumption | solve_by_elim)
  (s2 : (0 ≤ x1 ∧ x1 < 8) → R32 x3 := by intros; first | omega | assumption | solve_by_elim)
  (s3 : (0 ≤ x1 ∧ x1 < 8) → 0 ≤ x3 → R32 x2 := by intros; first | omega | assumption | solve_by_elim)
  (s4 : (0 ≤ x1 ∧ x1 < 8) → 0 ≤ x3 → ¬ x2 = 0 → x2 = 1 → x3 ≤ 100 → 0 ≤ x1 ∧ x1 < 8 := by intros; first | omega | assumption | solve_by_elim)
  (s5 : (0 ≤ x1 ∧ x1 < 8) → 0 ≤ x3 → x2 = 0 → 3 < x3 → x2 = 1 → x3 ≤ 100 → 0 ≤ x1 ∧ x1 < 8 := by intros; first | omega | assumption | solve_by_elim)
  (s6 : (0 ≤ x1 ∧ x1 < 8) → 0 ≤ x3 → x2 = 0 → x3 ≤ 3 → 0 ≤ x1 ∧ x1 < 8 := by intros; first | omega | assumption | solve_by_elim)
  : mmT bX11_set d 0 0 (mQ 0 P) 0 [(2, 0), (0, x1), (0, x2), (0, x3)] [] mS mem := by
  refine st_iload_n (i := 1) rfl rfl dX11_set_0 ?_
  refine st_callS (kc2 := 0) (ks2 := 0) (av := [(0, x1)]) mr_X11_179 ok_X11_isActor (c_X11_isActor mem x1 (s1)) rfl rfl hd2 (Nat.le_refl 0) (Nat.le_refl 0) (Nat.le_of_ble_eq_true rfl) dX11_set_1 (mQ.elim fun v1 m1 hp => ?_)
  obtain ⟨hpv, hpm⟩ := hp
  subst hpv
  have hpm := hpm.symm
  subst hpm
  refine so_ifeqB 11 (by decide) dX11_set_4 (fun h1 => ?_) (fun h1 => ?_)
  · have h1 : ¬ (0 ≤ x1 ∧ x1 < 8) := h1
    refine st_iconst dX11_set_11 ?_
    exact st_zreturn rfl (by decide) dX11_set_12 (mQ.ret (q1 h1))
  · have h1 : (0 ≤ x1 ∧ x1 < 8) := h1
    refine st_iload_n (i := 3) rfl rfl dX11_set_7 ?_
    refine sr_if_ge 13 (s2 h1) (by decide) dX11_set_8 (fun h2 => ?_) (fun h2 => ?_)
    · have h2 : 0 ≤ x3 := by omega
      refine st_iload_n (i := 2) rfl rfl dX11_set_13 ?_
      refine sr_if_ne 41 (s3 h1 h2) (by decide) dX11_set_14 (fun h3 => ?_) (fun h3 => ?_)
      · have h3 : ¬ x2 = 0 := by omega
        refine st_iload_n (i := 2) rfl rfl dX11_set_41 ?_
        refine st_iconst dX11_set_42 ?_
        refine sr_icmp_ne 64 (s3 h1 h2) ⟨by decide, by decide⟩ (by decide) dX11_set_43 (fun h4 => ?_) (fun h4 => ?_)
        · have h4 : ¬ x2 = 1 := by omega
          refine st_iconst dX11_set_64 ?_
          exact st_zreturn rfl (by decide) dX11_set_65 (mQ.ret (q2 h1 h2 h3 h4))
        · have h4 : x2 = 1 := by omega
          refine st_iload_n (i := 3) rfl rfl dX11_set_46 ?_
          refine st_bipush rfl dX11_set_47 ?_
          refine sr_icmp_gt 64 (s2 h1) ⟨by decide, by decide⟩ (by decide) dX11_set_49 (fun h5 => ?_) (fun h5 => ?_)
          · have h5 : 100 < x3 := by omega
            refine st_iconst dX11_set_64 ?_
            exact st_zreturn rfl (by decide) dX11_set_65 (mQ.ret (q3 h1 h2 h3 h4 h5))
          · have h5 : x3 ≤ 100 := by omega
            refine st_aload_n (i := 0) rfl (t := 0) rfl (by decide) dX11_set_52 ?_
            refine so_getA 0 5 fr_X11_51_10 rfl sh_0 fx_0_5 dX11_set_53 ?_
            refine so_getA 35 2 fr_X11_185_4 rfl sh_35 fx_35_2 dX11_set_56 ?_
            refine st_iload_n (i := 1) rfl rfl dX11_set_59 ?_
            refine st_iload_n (i := 3) rfl rfl dX11_set_60 ?_
            refine so_iast 37 fr_37 rfl sh_37 (by decide) (s4 h1 h2 h3 h4 h5) (s2 h1) dX11_set_61 ?_
            refine st_iconst dX11_set_62 ?_
            exact st_zreturn rfl (by decide) dX11_set_63 (mQ.ret (q4 h1 h2 h3 h4 h5))
      · have h3 : x2 = 0 := by omega
        refine st_iload_n (i := 3) rfl rfl dX11_set_17 ?_
        refine st_iconst dX11_set_18 ?_
        refine sr_icmp_gt 41 (s2 h1) ⟨by decide, by decide⟩ (by decide) dX11_set_19 (fun h6 => ?_) (fun h6 => ?_)
        · have h6 : 3 < x3 := by omega
          refine st_iload_n (i := 2) rfl rfl dX11_set_41 ?_
          refine st_iconst dX11_set_42 ?_
          refine sr_icmp_ne 64 (s3 h1 h2) ⟨by decide, by decide⟩ (by decide) dX11_set_43 (fun h7 => ?_) (fun h7 => ?_)
          · have h7 : ¬ x2 = 1 := by omega
            refine st_iconst dX11_set_64 ?_
            exact st_zreturn rfl (by decide) dX11_set_65 (mQ.ret (q5 h1 h2 h3 h6 h7))
          · have h7 : x2 = 1 := by omega
            refine st_iload_n (i := 3) rfl rfl dX11_set_46 ?_
            refine st_bipush rfl dX11_set_47 ?_
            refine sr_icmp_gt 64 (s2 h1) ⟨by decide, by decide⟩ (by decide) dX11_set_49 (fun h8 => ?_) (fun h8 => ?_)
            · have h8 : 100 < x3 := by omega
              refine st_iconst dX11_set_64 ?_
              exact st_zreturn rfl (by decide) dX11_set_65 (mQ.ret (q6 h1 h2 h3 h6 h7 h8))
            · have h8 : x3 ≤ 100 := by omega
              refine st_aload_n (i := 0) rfl (t := 0) rfl (by decide) dX11_set_52 ?_
              refine so_getA 0 5 fr_X11_51_10 rfl sh_0 fx_0_5 dX11_set_53 ?_
              refine so_getA 35 2 fr_X11_185_4 rfl sh_35 fx_35_2 dX11_set_56 ?_
              refine st_iload_n (i := 1) rfl rfl dX11_set_59 ?_
              refine st_iload_n (i := 3) rfl rfl dX11_set_60 ?_
              refine so_iast 37 fr_37 rfl sh_37 (by decide) (s5 h1 h2 h3 h6 h7 h8) (s2 h1) dX11_set_61 ?_
              refine st_iconst dX11_set_62 ?_
              exact st_zreturn rfl (by decide) dX11_set_63 (mQ.ret (q7 h1 h2 h3 h6 h7 h8))
        · have h6 : x3 ≤ 3 := by omega
          refine st_aload_n (i := 0) rfl (t := 0) rfl (by decide) dX11_set_22 ?_
          refine so_getA 0 5 fr_X11_51_10 rfl sh_0 fx_0_5 dX11_set_23 ?_
          refine so_getA 35 1 fr_X11_182_4 rfl sh_35 fx_35_1 dX11_set_26 ?_
          refine st_iload_n (i := 1) rfl rfl dX11_set_29 ?_
          refine st_iload_n (i := 3) rfl rfl dX11_set_30 ?_
          refine so_iast 36 fr_36 rfl sh_36 (by decide) (s6 h1 h2 h3 h6) (s2 h1) dX11_set_31 ?_
          refine st_aload_n (i := 0) rfl (t := 0) rfl (by decide) dX11_set_32 ?_
          refine so_getA 0 5 fr_X11_51_10 rfl sh_0 fx_0_5 dX11_set_33 ?_
          refine st_callV (kc2 := 0) (ks2 := 0) (av := []) 35 4 mr_X11_129 ok_X4_plan (c1 h1 h2 h3 h6) rfl sh_35 ⟨_, rfl, rfl, by decide⟩ rfl rfl hd_d1 (Nat.le_refl 0) (Nat.le_refl 0) (Nat.le_of_ble_eq_true rfl) dX11_set_36 (mQv.elim fun m2 p1 => ?_)
          refine st_iconst dX11_set_39 ?_
          exact st_zreturn rfl (by decide) dX11_set_40 (mQ.ret (q8 h1 h2 h3 h6 m2 p1))
    · have h2 : x3 < 0 := by omega
      refine st_iconst dX11_set_11 ?_
      exact st_zreturn rfl (by decide) dX11_set_12 (mQ.ret (q9 h1 h2))
theorem cn_X11_mark {d : Nat} {P : Int → mmM → Prop} {mem : mmM} {x1 x2 : Int} (h : mmT bX11_mark d 0 0 (mQ 0 P) 0 [(2, 0), (0, x1), (0, x2)] [] mS mem) : con 0 bX11_mark d [(2, 0), (0, x1), (0, x2)] mem P := mmC_of [(2, 0), (0, x1), (0, x2)] ok_X11_mark.2.2.2.2 rfl (Nat.le_of_ble_eq_true rfl) h
theorem bk_X11_mark_0 {d : Nat} {P : Int → mmM → Prop} {mem : mmM} {x1 x2 : Int}
  (q1 : ¬ (0 ≤ x1 ∧ x1 < (mem 23 1)) → P 0 mem)
  (q2 : (0 ≤ x1 ∧ x1 < (mem 23 1)) → ¬ (b2i (and32 (shr32 (mem 47 0) x1) 1 = 1)) = x2 → P 1 (mset mem 47 0 (xor32 (mem 47 0) (shl32 1 x1))))
  (q3 : (0 ≤ x1 ∧ x1 < (mem 23 1)) → (b2i (and32 (shr32 (mem 47 0) x1) 1 = 1)) = x2 → P 0 mem)
  (hd2 : 2 ≤ d := by omega)
  (s1 : R32 x1 := by intros; first | omega | assumption | solve_by_elim)
  (s2 : (0 ≤ x1 ∧ x1 < (mem 23 1)) → R32 x2 := by intros; first | omega | assumption | solve_by_elim)
  : mmT bX11_mark d 0 0 (mQ 0 P) 0 [(2, 0), (0, x1), (0, x2)] [] mS mem := by
  refine st_aload_n (i := 0) rfl (t := 0) rfl (by decide) dX11_mark_0 ?_
  refine so_getA 0 4 fr_X11_42_10 rfl sh_0 fx_0_4 dX11_mark_1 ?_
  refine st_iload_n (i := 1) rfl rfl dX11_mark_4 ?_
  refine st_callV (kc2 := 0) (ks2 := 0) (av := [(0, x1)]) 23 8 mr_X11_136 ok_X8_has (c_X8_has mem x1 (s1)) rfl sh_23 ⟨_, rfl, rfl, by decide⟩ rfl rfl hd2 (Nat.le_refl 0) (Nat.le_refl 0) (Nat.le_of_ble_eq_true rfl) dX11_mark_5 (mQ.elim fun v1 m1 hp => ?_)
  obtain ⟨hpv, hpm⟩ := hp
  subst hpv
  have hpm := hpm.symm
  subst hpm
  refine so_ifeqB 23 (by decide) dX11_mark_8 (fun h1 => ?_) (fun h1 => ?_)
  · have h1 : ¬ (0 ≤ x1 ∧ x1 < (mem 23 1)) := h1
    refine st_iconst dX11_mark_23 ?_
    exact st_zreturn rfl (by decide) dX11_mark_24 (mQ.ret (q1 h1))
  · have h1 : (0 ≤ x1 ∧ x1 < (mem 23 1)) := h1
    refine st_aload_n (i := 0) rfl (t := 0) rfl (by decide) dX11_mark_11 ?_
    refine so_getA 0 6 fr_X11_58_10 rfl sh_0 fx_0_6 dX11_mark_12 ?_
    refine st_iload_n (i := 1) rfl rfl dX11_mark_15 ?_
    refine st_callV (kc2 := 0) (ks2 := 0) (av := [(0, x1)]) 47 6 mr_X11_166 ok_X6_isMarked (c_X6_isMarked mem x1 ) rfl sh_47 ⟨_, rfl, rfl, by decide⟩ rfl rfl hd2 (Nat.le_refl 0) (Nat.le_refl 0) (Nat.le_of_ble_eq_true rfl) dX11_mark_16 (mQ.elim fun v2 m2 hp => ?_)
    obtain ⟨hpv, hpm⟩ := hp
    subst hpv
    have hpm := hpm.symm
    subst hpm
    refine st_iload_n (i := 2) rfl rfl dX11_mark_19 ?_
    refine sr_icmp_ne 25 (by have := b2i_rng (and32 (shr32 (mem 47 0) x1) 1 = 1); omega) (s2 h1) (by decide) dX11_mark_20 (fun h2 => ?_) (fun h2 => ?_)
    · have h2 : ¬ (b2i (and32 (shr32 (mem 47 0) x1) 1 = 1)) = x2 := by omega
      refine st_aload_n (i := 0) rfl (t := 0) rfl (by decide) dX11_mark_25 ?_
      refine so_getA 0 6 fr_X11_58_10 rfl sh_0 fx_0_6 dX11_mark_26 ?_
      refine st_dup (by decide) dX11_mark_29 ?_
      refine so_getI (v := (mem 47 0)) 47 0 fr_X11_188_6 rfl sh_47 rfl dX11_mark_30 (fun r1 => ?_)
      refine st_iconst dX11_mark_33 ?_
      refine st_iload_n (i := 1) rfl rfl dX11_mark_34 ?_
      refine st_ishl dX11_mark_35 ?_
      refine st_ixor dX11_mark_36 ?_
      refine so_putI 47 0 fr_X11_188_6 pf_6_0 fo_47_0 rfl sh_47 (xor32_rng (mem 47 0) (shl32 1 x1)) dX11_mark_37 ?_
      refine st_iconst dX11_mark_40 ?_
      exact st_zreturn rfl (by decide) dX11_mark_41 (mQ.ret (q2 h1 h2))
    · have h2 : (b2i (and32 (shr32 (mem 47 0) x1) 1 = 1)) = x2 := by omega
      refine st_iconst dX11_mark_23 ?_
      exact st_zreturn rfl (by decide) dX11_mark_24 (mQ.ret (q3 h1 h2))
theorem cn_X11_count {d : Nat} {P : Int → mmM → Prop} {mem : mmM} {x1 : Int} (h : mmT bX11_count d 0 0 (mQ 0 P) 0 [(2, 0), (0, x1)] [] mS mem) : con 0 bX11_count d [(2, 0), (0, x1)] mem P := mmC_of [(2, 0), (0, x1)] ok_X11_count.2.2.2.2 rfl (Nat.le_of_ble_eq_true rfl) h
theorem bk_X11_count_0 {d : Nat} {P : Int → mmM → Prop} {mem : mmM} {x1 : Int}
  (q1 : x1 = 0 → P (mem 23 0) mem)
  (q2 : ¬ x1 = 0 → x1 = 1 → P (mem 23 1) mem)
  (q3 : ¬ x1 = 0 → ¬ x1 = 1 → x1 = 2 → P (mem 0 11) mem)
  (q4 : ¬ x1 = 0 → ¬ x1 = 1 → ¬ x1 = 2 → x1 = 3 → P (mem 1 1) mem)
  (q5 : ¬ x1 = 0 → ¬ x1 = 1 → ¬ x1 = 2 → ¬ x1 = 3 → x1 = 4 → P (mem 0 12) mem)
  (q6 : ¬ x1 = 0 → ¬ x1 = 1 → ¬ x1 = 2 → ¬ x1 = 3 → ¬ x1 = 4 → x1 = 5 → P (mem 47 2) mem)
  (q7 : ¬ x1 = 0 → ¬ x1 = 1 → ¬ x1 = 2 → ¬ x1 = 3 → ¬ x1 = 4 → ¬ x1 = 5 → x1 = 6 → P (bcS (mem 47 0)) mem)
  (q8 : ¬ x1 = 0 → ¬ x1 = 1 → ¬ x1 = 2 → ¬ x1 = 3 → ¬ x1 = 4 → ¬ x1 = 5 → ¬ x1 = 6 → x1 = 7 → P (bcS (mem 47 1)) mem)
  (q9 : ¬ x1 = 0 → ¬ x1 = 1 → ¬ x1 = 2 → ¬ x1 = 3 → ¬ x1 = 4 → ¬ x1 = 5 → ¬ x1 = 6 → ¬ x1 = 7 → P (-1000000) mem)
  (hd2 : 2 ≤ d := by omega)
  (s1 : R32 x1 := by intros; first | omega | assumption | solve_by_elim)
  : mmT bX11_count d 0 0 (mQ 0 P) 0 [(2, 0), (0, x1)] [] mS mem := by
  refine st_iload_n (i := 1) rfl rfl dX11_count_0 ?_
  by_cases h1 : x1 = 0
  · refine so_tabI 48 s1 0 h1 (by decide) (by decide) rfl (by decide) dX11_count_1 ?_
    refine st_aload_n (i := 0) rfl (t := 0) rfl (by decide) dX11_count_48 ?_
    refine so_getA 0 4 fr_X11_42_10 rfl sh_0 fx_0_4 dX11_count_49 ?_
    refine so_getI (v := (mem 23 0)) 23 0 fr_X11_346_8 rfl sh_23 rfl dX11_count_52 (fun r1 => ?_)
    exact st_ireturn rfl dX11_count_55 (mQ.ret (q1 h1))
  by_cases h2 : x1 = 1
  · refine so_tabI 56 s1 1 h2 (by decide) (by decide) rfl (by decide) dX11_count_1 ?_
    refine st_aload_n (i := 0) rfl (t := 0) rfl (by decide) dX11_count_56 ?_
    refine so_getA 0 4 fr_X11_42_10 rfl sh_0 fx_0_4 dX11_count_57 ?_
    refine so_getI (v := (mem 23 1)) 23 1 fr_X11_135_8 rfl sh_23 rfl dX11_count_60 (fun r2 => ?_)
    exact st_ireturn rfl dX11_count_63 (mQ.ret (q2 h1 h2))
  by_cases h3 : x1 = 2
  · refine so_tabI 64 s1 2 h3 (by decide) (by decide) rfl (by decide) dX11_count_1 ?_
    refine st_aload_n (i := 0) rfl (t := 0) rfl (by decide) dX11_count_64 ?_
    refine so_getI (v := (mem 0 11)) 0 11 fr_X11_111_10 rfl sh_0 rfl dX11_count_65 (fun r3 => ?_)
    exact st_ireturn rfl dX11_count_68 (mQ.ret (q3 h1 h2 h3))
  by_cases h4 : x1 = 3
  · refine so_tabI 69 s1 3 h4 (by decide) (by decide) rfl (by decide) dX11_count_1 ?_
    refine st_aload_n (i := 0) rfl (t := 0) rfl (by decide) dX11_count_69 ?_
    refine so_getA 0 0 fr_X11_10_10 rfl sh_0 fx_0_0 dX11_count_70 ?_
    refine so_getI (v := (mem 1 1)) 1 1 fr_X11_96_9 rfl sh_1 rfl dX11_count_73 (fun r4 => ?_)
    exact st_ireturn rfl dX11_count_76 (mQ.ret (q4 h1 h2 h3 h4))
  by_cases h5 : x1 = 4
  · refine so_tabI 77 s1 4 h5 (by decide) (by decide) rfl (by decide) dX11_count_1 ?_
    refine st_aload_n (i := 0) rfl (t := 0) rfl (by decide) dX11_count_77 ?_
    refine so_getI (v := (mem 0 12)) 0 12 fr_X11_88_10 rfl sh_0 rfl dX11_count_78 (fun r5 => ?_)
    exact st_ireturn rfl dX11_count_81 (mQ.ret (q5 h1 h2 h3 h4 h5))
  by_cases h6 : x1 = 5
  · refine so_tabI 82 s1 5 h6 (by decide) (by decide) rfl (by decide) dX11_count_1 ?_
    refine st_aload_n (i := 0) rfl (t := 0) rfl (by decide) dX11_count_82 ?_
    refine so_getA 0 6 fr_X11_58_10 rfl sh_0 fx_0_6 dX11_count_83 ?_
    refine so_getI (v := (mem 47 2)) 47 2 fr_X11_223_6 rfl sh_47 rfl dX11_count_86 (fun r6 => ?_)
    exact st_ireturn rfl dX11_count_89 (mQ.ret (q6 h1 h2 h3 h4 h5 h6))
  by_cases h7 : x1 = 6
  · refine so_tabI 90 s1 6 h7 (by decide) (by decide) rfl (by decide) dX11_count_1 ?_
    refine st_aload_n (i := 0) rfl (t := 0) rfl (by decide) dX11_count_90 ?_
    refine so_getA 0 6 fr_X11_58_10 rfl sh_0 fx_0_6 dX11_count_91 ?_
    refine so_getI (v := (mem 47 0)) 47 0 fr_X11_188_6 rfl sh_47 rfl dX11_count_94 (fun r7 => ?_)
    refine st_callS (kc2 := 0) (ks2 := 0) (av := [(0, (mem 47 0))]) mr_X11_242 ok_J6_bitCount_0f7a4 (c_bitCount mem (mem 47 0) ) rfl rfl hd2 (Nat.le_refl 0) (Nat.le_refl 0) (Nat.le_of_ble_eq_true rfl) dX11_count_97 (mQ.elim fun v1 m1 hp => ?_)
    obtain ⟨hpv, hpm⟩ := hp
    subst hpv
    have hpm := hpm.symm
    subst hpm
    exact st_ireturn rfl dX11_count_100 (mQ.ret (q7 h1 h2 h3 h4 h5 h6 h7))
  by_cases h8 : x1 = 7
  · refine so_tabI 101 s1 7 h8 (by decide) (by decide) rfl (by decide) dX11_count_1 ?_
    refine st_aload_n (i := 0) rfl (t := 0) rfl (by decide) dX11_count_101 ?_
    refine so_getA 0 6 fr_X11_58_10 rfl sh_0 fx_0_6 dX11_count_102 ?_
    refine so_getI (v := (mem 47 1)) 47 1 fr_X11_274_6 rfl sh_47 rfl dX11_count_105 (fun r8 => ?_)
    refine st_callS (kc2 := 0) (ks2 := 0) (av := [(0, (mem 47 1))]) mr_X11_242 ok_J6_bitCount_0f7a4 (c_bitCount mem (mem 47 1) ) rfl rfl hd2 (Nat.le_refl 0) (Nat.le_refl 0) (Nat.le_of_ble_eq_true rfl) dX11_count_108 (mQ.elim fun v2 m2 hp => ?_)
    obtain ⟨hpv, hpm⟩ := hp
    subst hpv
    have hpm := hpm.symm
    subst hpm
    exact st_ireturn rfl dX11_count_111 (mQ.ret (q8 h1 h2 h3 h4 h5 h6 h7 h8))
  refine so_tabO 112 s1 (by omega) (by decide) dX11_count_1 ?_
  refine st_ldc cw_X11_194 dX11_count_112 ?_
  exact st_ireturn rfl dX11_count_114 (mQ.ret (q9 h1 h2 h3 h4 h5 h6 h7 h8))
theorem c_X11_image (mem : mmM) : con 0 bX11_image 4 [(2, 0)] mem (fun v m => v = (if mem 23 1 = 0 then -1 else bcS (mem 47 0)) ∧ m = (if mem 23 1 = 0 then mem else imgX mem)) := by
  have e : imgX mem 47 0 = mem 47 0 := by
    unfold imgX
    rw [mrow_ne (by decide), mset_at, if_neg (by decide), mset_at, if_neg (by decide)]
  refine cn_X11_image (bk_X11_image_0 (fun g => ⟨?_, ?_⟩) (fun g => ⟨?_, ?_⟩))
  · rw [if_neg g, e]
  · rw [if_neg g]
  · rw [if_pos g]
  · rw [if_pos g]
theorem c_X11_back (mem : mmM) : con 0 bX11_back 4 [(2, 0)] mem (fun v m => v = (if mem 47 4 = 0 then -1 else bcS (mem 47 5)) ∧ m = (if mem 47 4 = 0 then mem else backX mem)) := by
  have e : backX mem 47 0 = mem 47 5 := by
    unfold backX
    rw [mrow_ne (by decide), mset_same]
  refine cn_X11_back (bk_X11_back_0 (fun g => ⟨?_, ?_⟩) (fun g => ⟨?_, ?_⟩))
  · rw [if_neg g, e]
  · rw [if_neg g]
  · rw [if_pos g]
  · rw [if_pos g]
theorem c_X11_learn (mem : mmM) (x1 : Int) (h1 : R32 x1) (hl : ∀ i, 0 ≤ i → i < 24 → 0 ≤ mem 48 i ∧ mem 48 i < 2147483648) : con 0 bX11_learn 4 [(2, 0), (0, x1)] mem (fun v m => v = (if mem 23 1 = 0 ∨ ¬ (0 ≤ x1 ∧ x1 ≤ 24) then -1 else bcS (learnF 24 (mem 48) x1)) ∧ m = (if mem 23 1 = 0 ∨ ¬ (0 ≤ x1 ∧ x1 ≤ 24) then mem else mset mem 47 0 (learnF 24 (mem 48) x1))) := by
  refine cn_X11_learn (bk_X11_learn_0 (fun g g2 g3 => c_X6_markMostLost mem x1 ⟨g2, g3⟩ hl) (fun g => ⟨?_, ?_⟩) (fun g g2 => ⟨?_, ?_⟩) (fun g g2 g3 m q => ⟨?_, ?_⟩) (fun g g2 g3 => ⟨?_, ?_⟩))
  · rw [if_pos (by omega)]
  · rw [if_pos (by omega)]
  · rw [if_pos (by omega)]
  · rw [if_pos (by omega)]
  · rw [if_neg (by omega), q, mset_same]
  · rw [if_neg (by omega), q]
  · rw [if_pos (by omega)]
  · rw [if_pos (by omega)]
theorem c_X11_set (mem : mmM) (x1 x2 x3 : Int) (h1 : R32 x1) (h2 : R32 x2) (h3 : R32 x3) (hn : 0 ≤ mem 23 1 ∧ mem 23 1 ≤ 24) (ha : ∀ i, 0 ≤ i → i < mem 23 1 → 0 ≤ mem 24 i ∧ mem 24 i < 8) : con 0 bX11_set 6 [(2, 0), (0, x1), (0, x2), (0, x3)] mem (fun v m =>
    (v = 0 ∧ m = mem ∧ ¬ ((0 ≤ x1 ∧ x1 < 8) ∧ 0 ≤ x3 ∧ (x2 = 0 ∧ x3 ≤ 3 ∨ x2 = 1 ∧ x3 ≤ 100))) ∨ (v = 1 ∧ m = planX (mset mem 36 x1 x3) ∧ (0 ≤ x1 ∧ x1 < 8) ∧ x2 = 0 ∧ 0 ≤ x3 ∧ x3 ≤ 3) ∨ (v = 1 ∧ m = mset mem 37 x1 x3 ∧ (0 ≤ x1 ∧ x1 < 8) ∧ x2 = 1 ∧ 0 ≤ x3 ∧ x3 ≤ 100)) := by
  have e23 : mset mem 36 x1 x3 23 = mem 23 := mset_ne (by decide)
  have e24 : mset mem 36 x1 x3 24 = mem 24 := mset_ne (by decide)
  refine cn_X11_set (bk_X11_set_0 (fun _ _ _ _ => c_X4_plan (mset mem 36 x1 x3) (by rw [e23]; exact hn) (by rw [e23, e24]; exact ha)) ?_ ?_ ?_ ?_ ?_ ?_ ?_ ?_ ?_)
  · intros; exact Or.inl ⟨rfl, rfl, by omega⟩
  · intros; exact Or.inl ⟨rfl, rfl, by omega⟩
  · intros; exact Or.inl ⟨rfl, rfl, by omega⟩
  · intros; exact Or.inr (Or.inr ⟨rfl, rfl, by omega, by omega, by omega, by omega⟩)
  · intros; exact Or.inl ⟨rfl, rfl, by omega⟩
  · intros; exact Or.inl ⟨rfl, rfl, by omega⟩
  · intros; omega
  · intro g g2 g3 g4 m q; exact Or.inr (Or.inl ⟨rfl, q, by omega, by omega, by omega, by omega⟩)
  · intros; exact Or.inl ⟨rfl, rfl, by omega⟩
theorem c_X11_mark (mem : mmM) (x1 x2 : Int) (h1 : R32 x1) (h2 : R32 x2) : con 0 bX11_mark 2 [(2, 0), (0, x1), (0, x2)] mem (fun v m => v = (if (0 ≤ x1 ∧ x1 < mem 23 1) ∧ ¬ b2i (and32 (shr32 (mem 47 0) x1) 1 = 1) = x2 then 1 else 0) ∧ m = (if (0 ≤ x1 ∧ x1 < mem 23 1) ∧ ¬ b2i (and32 (shr32 (mem 47 0) x1) 1 = 1) = x2 then mset mem 47 0 (xor32 (mem 47 0) (shl32 1 x1)) else mem)) := by
  refine cn_X11_mark (bk_X11_mark_0 (fun g => ?_) (fun g g2 => ?_) (fun g g2 => ?_))
  · rw [if_neg (fun z => g z.1), if_neg (fun z => g z.1)]; exact ⟨rfl, rfl⟩
  · rw [if_pos ⟨g, g2⟩, if_pos ⟨g, g2⟩]; exact ⟨rfl, rfl⟩
  · rw [if_neg (fun z => z.2 g2), if_neg (fun z => z.2 g2)]; exact ⟨rfl, rfl⟩
theorem c_X11_count (mem : mmM) (x1 : Int) (h1 : R32 x1) : con 0 bX11_count 2 [(2, 0), (0, x1)] mem (fun v m => v = (if x1 = 0 then mem 23 0 else if x1 = 1 then mem 23 1 else if x1 = 2 then mem 0 11 else if x1 = 3 then mem 1 1 else if x1 = 4 then mem 0 12 else if x1 = 5 then mem 47 2 else if x1 = 6 then bcS (mem 47 0) else if x1 = 7 then bcS (mem 47 1) else -1000000) ∧ m = mem) := by
  refine cn_X11_count (bk_X11_count_0 ?_ ?_ ?_ ?_ ?_ ?_ ?_ ?_ ?_) <;> (intros; refine ⟨?_, rfl⟩; (repeat' split) <;> first | rfl | omega)
def imgM (mem : mmM) : mmM := mset (mset (rowTo mem 98 (mem 85) (mem 65 27)) 65 57 (mem 65 31)) 65 58 1
def backM (mem : mmM) : mmM := mset (rowTo mem 85 (mem 98) (mem 65 27)) 65 31 (mem 65 57)