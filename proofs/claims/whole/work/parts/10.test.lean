theorem bk_X8_has_0 {d : Nat} {P : Int → mmM → Prop} {mem : mmM} {x1 : Int}
  (s1 : R32 x1 := by intros; omega)
  (q1 : x1 < 0 → P 0 mem)
  (q2 : 0 ≤ x1 → (mem 23 1) ≤ x1 → P 0 mem)
  (q3 : 0 ≤ x1 → x1 < (mem 23 1) → P 1 mem)
  : mmT bX8_has d 0 0 (mQ 0 P) 0 [(2, 23), (0, x1)] [] mS mem := by
  refine st_iload_n (i := 1) rfl rfl dX8_has_0 ?_
  refine sr_if_lt 16 s1 (by decide) dX8_has_1 (fun h1 => ?_) (fun h1 => ?_)
  · have h1 : x1 < 0 := by omega
    refine st_iconst dX8_has_16 ?_
    exact st_zreturn rfl (by decide) dX8_has_17 (mQ.ret (q1 h1))
  · have h1 : 0 ≤ x1 := by omega
    refine st_iload_n (i := 1) rfl rfl dX8_has_4 ?_
    refine st_aload_n (i := 0) rfl (t := 0) rfl (by decide) dX8_has_5 ?_
    refine so_getI (v := (mem 23 1)) 23 1 fr_X8_60_8 rfl sh_23 rfl dX8_has_6 (fun r1 => ?_)
    refine sr_icmp_ge 16 s1 r1 (by decide) dX8_has_9 (fun h2 => ?_) (fun h2 => ?_)
    · have h2 : (mem 23 1) ≤ x1 := by omega
      refine st_iconst dX8_has_16 ?_
      exact st_zreturn rfl (by decide) dX8_has_17 (mQ.ret (q2 h1 h2))
    · have h2 : x1 < (mem 23 1) := by omega
      refine st_iconst dX8_has_12 ?_
      refine st_goto 17 (by decide) dX8_has_13 ?_
      exact st_zreturn rfl (by decide) dX8_has_17 (mQ.ret (q3 h1 h2))

theorem bk_X8_gapOf_0 {d : Nat} {P : Int → mmM → Prop} {mem : mmM} {x1 : Int}
  (k1 : mmT bX8_gapOf d 0 0 (mQ 0 P) 4 [(2, 23), (0, x1), (0, (x1 - 1))] [] mS mem)
  : mmT bX8_gapOf d 0 0 (mQ 0 P) 0 [(2, 23), (0, x1), (9, 0)] [] mS mem := by
  refine st_iload_n (i := 1) rfl rfl dX8_gapOf_0 ?_
  refine st_iconst dX8_gapOf_1 ?_
  refine st_isub dX8_gapOf_2 ?_
  refine st_istore_n (i := 2) rfl (by decide) (lc' := [(2, 23), (0, x1), (0, (x1 - 1))]) rfl dX8_gapOf_3 ?_
  exact st_locals [(2, 23), (0, x1), (0, (x1 - 1))] ⟨Or.inr rfl, Or.inr rfl, Or.inr rfl, trivial⟩ k1

theorem bk_X8_gapOf_4 {d : Nat} {P : Int → mmM → Prop} {mem : mmM} {x1 x2 : Int}
  (s1 : R32 x2 := by intros; omega)
  (s2 : 0 ≤ x2 → 0 ≤ x2 ∧ x2 < 24 := by intros; omega)
  (s3 : 0 ≤ x2 → 0 ≤ x1 ∧ x1 < 24 := by intros; omega)
  (k1 : 0 ≤ x2 → ¬ (mem 24 x2) = (mem 24 x1) → mmT bX8_gapOf d 0 0 (mQ 0 P) 4 [(2, 23), (0, x1), (0, (x2 + (-1)))] [] mS mem)
  (q1 : x2 < 0 → P x1 mem)
  (q2 : 0 ≤ x2 → (mem 24 x2) = (mem 24 x1) → P ((x1 - x2) - 1) mem)
  : mmT bX8_gapOf d 0 0 (mQ 0 P) 4 [(2, 23), (0, x1), (0, x2)] [] mS mem := by
  refine st_iload_n (i := 2) rfl rfl dX8_gapOf_4 ?_
  refine sr_if_lt 35 s1 (by decide) dX8_gapOf_5 (fun h1 => ?_) (fun h1 => ?_)
  · have h1 : x2 < 0 := by omega
    refine st_iload_n (i := 1) rfl rfl dX8_gapOf_35 ?_
    exact st_ireturn rfl dX8_gapOf_36 (mQ.ret (q1 h1))
  · have h1 : 0 ≤ x2 := by omega
    refine st_aload_n (i := 0) rfl (t := 0) rfl (by decide) dX8_gapOf_8 ?_
    refine so_getA 23 2 fr_X8_9_8 rfl sh_23 fx_23_2 dX8_gapOf_9 ?_
    refine st_iload_n (i := 2) rfl rfl dX8_gapOf_12 ?_
    refine so_iald (v := (mem 24 x2)) 24 rfl sh_24 (by decide) (s2 h1) rfl dX8_gapOf_13 (fun r1 => ?_)
    refine st_aload_n (i := 0) rfl (t := 0) rfl (by decide) dX8_gapOf_14 ?_
    refine so_getA 23 2 fr_X8_9_8 rfl sh_23 fx_23_2 dX8_gapOf_15 ?_
    refine st_iload_n (i := 1) rfl rfl dX8_gapOf_18 ?_
    refine so_iald (v := (mem 24 x1)) 24 rfl sh_24 (by decide) (s3 h1) rfl dX8_gapOf_19 (fun r2 => ?_)
    refine sr_icmp_ne 29 r1 r2 (by decide) dX8_gapOf_20 (fun h2 => ?_) (fun h2 => ?_)
    · have h2 : ¬ (mem 24 x2) = (mem 24 x1) := by omega
      refine st_iinc (y := (x2 + (-1))) (by decide) (i := 2) rfl rfl (lc' := [(2, 23), (0, x1), (0, (x2 + (-1)))]) rfl dX8_gapOf_29 ?_
      refine st_goto 4 (by decide) dX8_gapOf_32 ?_
      exact st_locals [(2, 23), (0, x1), (0, (x2 + (-1)))] ⟨Or.inr rfl, Or.inr rfl, Or.inr rfl, trivial⟩ (k1 h1 h2)
    · have h2 : (mem 24 x2) = (mem 24 x1) := by omega
      refine st_iload_n (i := 1) rfl rfl dX8_gapOf_23 ?_
      refine st_iload_n (i := 2) rfl rfl dX8_gapOf_24 ?_
      refine st_isub dX8_gapOf_25 ?_
      refine st_iconst dX8_gapOf_26 ?_
      refine st_isub dX8_gapOf_27 ?_
      exact st_ireturn rfl dX8_gapOf_28 (mQ.ret (q2 h1 h2))

theorem bk_X9_here_0 {d : Nat} {P : Int → mmM → Prop} {mem : mmM}
  (s1 : 0 ≤ (mem 1 2) → (mem 1 2) < (mem 1 1) → (mem 1 2) < 160 → 0 ≤ (mem 1 2) ∧ (mem 1 2) < 160 := by intros; omega)
  (q1 : (mem 1 2) < 0 → P 0 mem)
  (q2 : 0 ≤ (mem 1 2) → (mem 1 1) ≤ (mem 1 2) → P 0 mem)
  (q3 : 0 ≤ (mem 1 2) → (mem 1 2) < (mem 1 1) → 160 ≤ (mem 1 2) → P 0 mem)
  (q4 : 0 ≤ (mem 1 2) → (mem 1 2) < (mem 1 1) → (mem 1 2) < 160 → P (mem 2 (mem 1 2)) mem)
  : mmT bX9_here d 0 0 (mQ 0 P) 0 [(2, 1)] [] mS mem := by
  refine st_aload_n (i := 0) rfl (t := 0) rfl (by decide) dX9_here_0 ?_
  refine so_getI (v := (mem 1 2)) 1 2 fr_X9_19_9 rfl sh_1 rfl dX9_here_1 (fun r1 => ?_)
  refine sr_if_lt 42 r1 (by decide) dX9_here_4 (fun h1 => ?_) (fun h1 => ?_)
  · have h1 : (mem 1 2) < 0 := by omega
    refine st_iconst dX9_here_42 ?_
    exact st_ireturn rfl dX9_here_43 (mQ.ret (q1 h1))
  · have h1 : 0 ≤ (mem 1 2) := by omega
    refine st_aload_n (i := 0) rfl (t := 0) rfl (by decide) dX9_here_7 ?_
    refine so_getI (v := (mem 1 2)) 1 2 fr_X9_19_9 rfl sh_1 rfl dX9_here_8 (fun r2 => ?_)
    refine st_aload_n (i := 0) rfl (t := 0) rfl (by decide) dX9_here_11 ?_
    refine so_getI (v := (mem 1 1)) 1 1 fr_X9_15_9 rfl sh_1 rfl dX9_here_12 (fun r3 => ?_)
    refine sr_icmp_ge 42 r2 r3 (by decide) dX9_here_15 (fun h2 => ?_) (fun h2 => ?_)
    · have h2 : (mem 1 1) ≤ (mem 1 2) := by omega
      refine st_iconst dX9_here_42 ?_
      exact st_ireturn rfl dX9_here_43 (mQ.ret (q2 h1 h2))
    · have h2 : (mem 1 2) < (mem 1 1) := by omega
      refine st_aload_n (i := 0) rfl (t := 0) rfl (by decide) dX9_here_18 ?_
      refine so_getI (v := (mem 1 2)) 1 2 fr_X9_19_9 rfl sh_1 rfl dX9_here_19 (fun r4 => ?_)
      refine st_aload_n (i := 0) rfl (t := 0) rfl (by decide) dX9_here_22 ?_
      refine so_getA 1 0 fr_X9_9_9 rfl sh_1 fx_1_0 dX9_here_23 ?_
      refine so_alen (v := 160) 2 rfl sh_2 (by decide) rfl dX9_here_26 ?_
      refine sr_icmp_ge 42 r4 ⟨by decide, by decide⟩ (by decide) dX9_here_27 (fun h3 => ?_) (fun h3 => ?_)
      · have h3 : 160 ≤ (mem 1 2) := by omega
        refine st_iconst dX9_here_42 ?_
        exact st_ireturn rfl dX9_here_43 (mQ.ret (q3 h1 h2 h3))
      · have h3 : (mem 1 2) < 160 := by omega
        refine st_aload_n (i := 0) rfl (t := 0) rfl (by decide) dX9_here_30 ?_
        refine so_getA 1 0 fr_X9_9_9 rfl sh_1 fx_1_0 dX9_here_31 ?_
        refine st_aload_n (i := 0) rfl (t := 0) rfl (by decide) dX9_here_34 ?_
        refine so_getI (v := (mem 1 2)) 1 2 fr_X9_19_9 rfl sh_1 rfl dX9_here_35 (fun r5 => ?_)
        refine so_iald (v := (mem 2 (mem 1 2))) 2 rfl sh_2 (by decide) (s1 h1 h2 h3) rfl dX9_here_38 (fun r6 => ?_)
        refine st_goto 43 (by decide) dX9_here_39 ?_
        exact st_ireturn rfl dX9_here_43 (mQ.ret (q4 h1 h2 h3))

theorem bk_X9_sign_0 {d : Nat} {d1 : Nat} {P1 : Int → mmM → Prop} {d2 : Nat} {P2 : Int → mmM → Prop} {d3 : Nat} {P3 : Int → mmM → Prop} {P : Int → mmM → Prop} {mem : mmM}
  (c1 : (mem 1 2) < 0 → con 0 bX9_here d1 [(2, 1)] mem P1)
  (c2 : 0 ≤ (mem 1 2) → (mem 1 1) ≤ (mem 1 2) → con 0 bX9_here d2 [(2, 1)] mem P2)
  (c3 : 0 ≤ (mem 1 2) → (mem 1 2) < (mem 1 1) → ¬ (mem 2 (mem 1 2)) = 32 → con 0 bX9_here d3 [(2, 1)] mem P3)
  (hd_d1 : d1 + 1 ≤ d := by omega)
  (hd_d2 : d2 + 1 ≤ d := by omega)
  (hd_d3 : d3 + 1 ≤ d := by omega)
  (s1 : 0 ≤ (mem 1 2) → (mem 1 2) < (mem 1 1) → 0 ≤ (mem 1 2) ∧ (mem 1 2) < 160 := by intros; omega)
  (s2 : 0 ≤ (mem 1 2) → (mem 1 2) < (mem 1 1) → (mem 2 (mem 1 2)) = 32 → R32 ((mem 1 2) + 1) := by intros; omega)
  (k1 : 0 ≤ (mem 1 2) → (mem 1 2) < (mem 1 1) → (mem 2 (mem 1 2)) = 32 → mmT bX9_sign d 0 0 (mQ 0 P) 0 [(2, 1)] [] mS (mset mem 1 2 ((mem 1 2) + 1)))
  (q1 : (mem 1 2) < 0 → ∀ (v1 : Int), ∀ (m1 : mmM), P1 v1 m1 → P v1 m1)
  (q2 : 0 ≤ (mem 1 2) → (mem 1 1) ≤ (mem 1 2) → ∀ (v2 : Int), ∀ (m2 : mmM), P2 v2 m2 → P v2 m2)
  (q3 : 0 ≤ (mem 1 2) → (mem 1 2) < (mem 1 1) → ¬ (mem 2 (mem 1 2)) = 32 → ∀ (v3 : Int), ∀ (m3 : mmM), P3 v3 m3 → P v3 m3)
  : mmT bX9_sign d 0 0 (mQ 0 P) 0 [(2, 1)] [] mS mem := by
  refine st_aload_n (i := 0) rfl (t := 0) rfl (by decide) dX9_sign_0 ?_
  refine so_getI (v := (mem 1 2)) 1 2 fr_X9_19_9 rfl sh_1 rfl dX9_sign_1 (fun r1 => ?_)
  refine sr_if_lt 45 r1 (by decide) dX9_sign_4 (fun h1 => ?_) (fun h1 => ?_)
  · have h1 : (mem 1 2) < 0 := by omega
    refine st_aload_n (i := 0) rfl (t := 0) rfl (by decide) dX9_sign_45 ?_
    refine st_callV (kc2 := 0) (ks2 := 0) (av := []) 1 9 mr_X9_22 ok_X9_here (c1 h1) rfl sh_1 ⟨_, rfl, rfl, by decide⟩ rfl rfl hd_d1 (Nat.le_refl 0) (Nat.le_refl 0) (Nat.le_of_ble_eq_true rfl) dX9_sign_46 (mQ.elim fun v1 m1 p1 => ?_)
    exact st_ireturn rfl dX9_sign_49 (mQ.ret (q1 h1 v1 m1 p1))
  · have h1 : 0 ≤ (mem 1 2) := by omega
    refine st_aload_n (i := 0) rfl (t := 0) rfl (by decide) dX9_sign_7 ?_
    refine so_getI (v := (mem 1 2)) 1 2 fr_X9_19_9 rfl sh_1 rfl dX9_sign_8 (fun r2 => ?_)
    refine st_aload_n (i := 0) rfl (t := 0) rfl (by decide) dX9_sign_11 ?_
    refine so_getI (v := (mem 1 1)) 1 1 fr_X9_15_9 rfl sh_1 rfl dX9_sign_12 (fun r3 => ?_)
    refine sr_icmp_ge 45 r2 r3 (by decide) dX9_sign_15 (fun h2 => ?_) (fun h2 => ?_)
    · have h2 : (mem 1 1) ≤ (mem 1 2) := by omega
      refine st_aload_n (i := 0) rfl (t := 0) rfl (by decide) dX9_sign_45 ?_
      refine st_callV (kc2 := 0) (ks2 := 0) (av := []) 1 9 mr_X9_22 ok_X9_here (c2 h1 h2) rfl sh_1 ⟨_, rfl, rfl, by decide⟩ rfl rfl hd_d2 (Nat.le_refl 0) (Nat.le_refl 0) (Nat.le_of_ble_eq_true rfl) dX9_sign_46 (mQ.elim fun v2 m2 p2 => ?_)
      exact st_ireturn rfl dX9_sign_49 (mQ.ret (q2 h1 h2 v2 m2 p2))
    · have h2 : (mem 1 2) < (mem 1 1) := by omega
      refine st_aload_n (i := 0) rfl (t := 0) rfl (by decide) dX9_sign_18 ?_
      refine so_getA 1 0 fr_X9_9_9 rfl sh_1 fx_1_0 dX9_sign_19 ?_
      refine st_aload_n (i := 0) rfl (t := 0) rfl (by decide) dX9_sign_22 ?_
      refine so_getI (v := (mem 1 2)) 1 2 fr_X9_19_9 rfl sh_1 rfl dX9_sign_23 (fun r4 => ?_)
      refine so_iald (v := (mem 2 (mem 1 2))) 2 rfl sh_2 (by decide) (s1 h1 h2) rfl dX9_sign_26 (fun r5 => ?_)
      refine st_bipush rfl dX9_sign_27 ?_
      refine sr_icmp_ne 45 r5 ⟨by decide, by decide⟩ (by decide) dX9_sign_29 (fun h3 => ?_) (fun h3 => ?_)
      · have h3 : ¬ (mem 2 (mem 1 2)) = 32 := by omega
        refine st_aload_n (i := 0) rfl (t := 0) rfl (by decide) dX9_sign_45 ?_
        refine st_callV (kc2 := 0) (ks2 := 0) (av := []) 1 9 mr_X9_22 ok_X9_here (c3 h1 h2 h3) rfl sh_1 ⟨_, rfl, rfl, by decide⟩ rfl rfl hd_d3 (Nat.le_refl 0) (Nat.le_refl 0) (Nat.le_of_ble_eq_true rfl) dX9_sign_46 (mQ.elim fun v3 m3 p3 => ?_)
        exact st_ireturn rfl dX9_sign_49 (mQ.ret (q3 h1 h2 h3 v3 m3 p3))
      · have h3 : (mem 2 (mem 1 2)) = 32 := by omega
        refine st_aload_n (i := 0) rfl (t := 0) rfl (by decide) dX9_sign_32 ?_
        refine st_dup (by decide) dX9_sign_33 ?_
        refine so_getI (v := (mem 1 2)) 1 2 fr_X9_19_9 rfl sh_1 rfl dX9_sign_34 (fun r6 => ?_)
        refine st_iconst dX9_sign_37 ?_
        refine st_iadd dX9_sign_38 ?_
        refine so_putI 1 2 fr_X9_19_9 pf_9_2 fo_1_2 rfl sh_1 (s2 h1 h2 h3) dX9_sign_39 ?_
        refine st_goto 0 (by decide) dX9_sign_42 ?_
        exact st_locals [(2, 1)] ⟨Or.inr rfl, trivial⟩ (k1 h1 h2 h3)

theorem bk_X8_alike_0 {d : Nat} {d1 : Nat} {P1 : Int → mmM → Prop} {d2 : Nat} {P2 : Int → mmM → Prop} {P : Int → mmM → Prop} {mem : mmM} {x1 x2 : Int}
  (c1 : con 0 bX8_has d1 [(2, 23), (0, x1)] mem P1)
  (c2 : ∀ (v1 : Int), ∀ (m1 : mmM), P1 v1 m1 → ¬ v1 = 0 → con 0 bX8_has d2 [(2, 23), (0, x2)] m1 P2)
  (hd_d1 : d1 + 1 ≤ d := by omega)
  (hd_d2 : d2 + 1 ≤ d := by omega)
  (s1 : ∀ (v1 : Int), ∀ (m1 : mmM), P1 v1 m1 → R32 v1 := by intros; omega)
  (s2 : ∀ (v1 : Int), ∀ (m1 : mmM), P1 v1 m1 → ¬ v1 = 0 → ∀ (v2 : Int), ∀ (m2 : mmM), P2 v2 m2 → R32 v2 := by intros; omega)
  (s3 : ∀ (v1 : Int), ∀ (m1 : mmM), P1 v1 m1 → ¬ v1 = 0 → ∀ (v2 : Int), ∀ (m2 : mmM), P2 v2 m2 → ¬ v2 = 0 → R32 x1 := by intros; omega)
  (s4 : ∀ (v1 : Int), ∀ (m1 : mmM), P1 v1 m1 → ¬ v1 = 0 → ∀ (v2 : Int), ∀ (m2 : mmM), P2 v2 m2 → ¬ v2 = 0 → R32 x2 := by intros; omega)
  (s5 : ∀ (v1 : Int), ∀ (m1 : mmM), P1 v1 m1 → ¬ v1 = 0 → ∀ (v2 : Int), ∀ (m2 : mmM), P2 v2 m2 → ¬ v2 = 0 → ¬ x1 = x2 → 0 ≤ x1 ∧ x1 < 24 := by intros; omega)
  (s6 : ∀ (v1 : Int), ∀ (m1 : mmM), P1 v1 m1 → ¬ v1 = 0 → ∀ (v2 : Int), ∀ (m2 : mmM), P2 v2 m2 → ¬ v2 = 0 → ¬ x1 = x2 → 0 ≤ x2 ∧ x2 < 24 := by intros; omega)
  (q1 : ∀ (v1 : Int), ∀ (m1 : mmM), P1 v1 m1 → v1 = 0 → P 0 m1)
  (q2 : ∀ (v1 : Int), ∀ (m1 : mmM), P1 v1 m1 → ¬ v1 = 0 → ∀ (v2 : Int), ∀ (m2 : mmM), P2 v2 m2 → v2 = 0 → P 0 m2)
  (q3 : ∀ (v1 : Int), ∀ (m1 : mmM), P1 v1 m1 → ¬ v1 = 0 → ∀ (v2 : Int), ∀ (m2 : mmM), P2 v2 m2 → ¬ v2 = 0 → x1 = x2 → P 0 m2)
  (q4 : ∀ (v1 : Int), ∀ (m1 : mmM), P1 v1 m1 → ¬ v1 = 0 → ∀ (v2 : Int), ∀ (m2 : mmM), P2 v2 m2 → ¬ v2 = 0 → ¬ x1 = x2 → ¬ (m2 24 x1) = (m2 24 x2) → P 0 m2)
  (q5 : ∀ (v1 : Int), ∀ (m1 : mmM), P1 v1 m1 → ¬ v1 = 0 → ∀ (v2 : Int), ∀ (m2 : mmM), P2 v2 m2 → ¬ v2 = 0 → ¬ x1 = x2 → (m2 24 x1) = (m2 24 x2) → ¬ (m2 28 x1) = (m2 28 x2) → P 0 m2)
  (q6 : ∀ (v1 : Int), ∀ (m1 : mmM), P1 v1 m1 → ¬ v1 = 0 → ∀ (v2 : Int), ∀ (m2 : mmM), P2 v2 m2 → ¬ v2 = 0 → ¬ x1 = x2 → (m2 24 x1) = (m2 24 x2) → (m2 28 x1) = (m2 28 x2) → (m2 28 x1) = (-1) → P 0 m2)
  (q7 : ∀ (v1 : Int), ∀ (m1 : mmM), P1 v1 m1 → ¬ v1 = 0 → ∀ (v2 : Int), ∀ (m2 : mmM), P2 v2 m2 → ¬ v2 = 0 → ¬ x1 = x2 → (m2 24 x1) = (m2 24 x2) → (m2 28 x1) = (m2 28 x2) → ¬ (m2 28 x1) = (-1) → P 1 m2)
  : mmT bX8_alike d 0 0 (mQ 0 P) 0 [(2, 23), (0, x1), (0, x2)] [] mS mem := by
  refine st_aload_n (i := 0) rfl (t := 0) rfl (by decide) dX8_alike_0 ?_
  refine st_iload_n (i := 1) rfl rfl dX8_alike_1 ?_
  refine st_callV (kc2 := 0) (ks2 := 0) (av := [(0, x1)]) 23 8 mr_X8_85 ok_X8_has c1 rfl sh_23 ⟨_, rfl, rfl, by decide⟩ rfl rfl hd_d1 (Nat.le_refl 0) (Nat.le_refl 0) (Nat.le_of_ble_eq_true rfl) dX8_alike_2 (mQ.elim fun v1 m1 p1 => ?_)
  refine sr_if_eq 65 (s1 v1 m1 p1) (by decide) dX8_alike_5 (fun h1 => ?_) (fun h1 => ?_)
  · have h1 : v1 = 0 := by omega
    refine st_iconst dX8_alike_65 ?_
    exact st_zreturn rfl (by decide) dX8_alike_66 (mQ.ret (q1 v1 m1 p1 h1))
  · have h1 : ¬ v1 = 0 := by omega
    refine st_aload_n (i := 0) rfl (t := 0) rfl (by decide) dX8_alike_8 ?_
    refine st_iload_n (i := 2) rfl rfl dX8_alike_9 ?_
    refine st_callV (kc2 := 0) (ks2 := 0) (av := [(0, x2)]) 23 8 mr_X8_85 ok_X8_has (c2 v1 m1 p1 h1) rfl sh_23 ⟨_, rfl, rfl, by decide⟩ rfl rfl hd_d2 (Nat.le_refl 0) (Nat.le_refl 0) (Nat.le_of_ble_eq_true rfl) dX8_alike_10 (mQ.elim fun v2 m2 p2 => ?_)
    refine sr_if_eq 65 (s2 v1 m1 p1 h1 v2 m2 p2) (by decide) dX8_alike_13 (fun h2 => ?_) (fun h2 => ?_)
    · have h2 : v2 = 0 := by omega
      refine st_iconst dX8_alike_65 ?_
      exact st_zreturn rfl (by decide) dX8_alike_66 (mQ.ret (q2 v1 m1 p1 h1 v2 m2 p2 h2))
    · have h2 : ¬ v2 = 0 := by omega
      refine st_iload_n (i := 1) rfl rfl dX8_alike_16 ?_
      refine st_iload_n (i := 2) rfl rfl dX8_alike_17 ?_
      refine sr_icmp_eq 65 (s3 v1 m1 p1 h1 v2 m2 p2 h2) (s4 v1 m1 p1 h1 v2 m2 p2 h2) (by decide) dX8_alike_18 (fun h3 => ?_) (fun h3 => ?_)
      · have h3 : x1 = x2 := by omega
        refine st_iconst dX8_alike_65 ?_
        exact st_zreturn rfl (by decide) dX8_alike_66 (mQ.ret (q3 v1 m1 p1 h1 v2 m2 p2 h2 h3))
      · have h3 : ¬ x1 = x2 := by omega
        refine st_aload_n (i := 0) rfl (t := 0) rfl (by decide) dX8_alike_21 ?_
        refine so_getA 23 2 fr_X8_9_8 rfl sh_23 fx_23_2 dX8_alike_22 ?_
        refine st_iload_n (i := 1) rfl rfl dX8_alike_25 ?_
        refine so_iald (v := (m2 24 x1)) 24 rfl sh_24 (by decide) (s5 v1 m1 p1 h1 v2 m2 p2 h2 h3) rfl dX8_alike_26 (fun r1 => ?_)
        refine st_aload_n (i := 0) rfl (t := 0) rfl (by decide) dX8_alike_27 ?_
        refine so_getA 23 2 fr_X8_9_8 rfl sh_23 fx_23_2 dX8_alike_28 ?_
        refine st_iload_n (i := 2) rfl rfl dX8_alike_31 ?_
        refine so_iald (v := (m2 24 x2)) 24 rfl sh_24 (by decide) (s6 v1 m1 p1 h1 v2 m2 p2 h2 h3) rfl dX8_alike_32 (fun r2 => ?_)
        refine sr_icmp_ne 65 r1 r2 (by decide) dX8_alike_33 (fun h4 => ?_) (fun h4 => ?_)
        · have h4 : ¬ (m2 24 x1) = (m2 24 x2) := by omega
          refine st_iconst dX8_alike_65 ?_
          exact st_zreturn rfl (by decide) dX8_alike_66 (mQ.ret (q4 v1 m1 p1 h1 v2 m2 p2 h2 h3 h4))
        · have h4 : (m2 24 x1) = (m2 24 x2) := by omega
          refine st_aload_n (i := 0) rfl (t := 0) rfl (by decide) dX8_alike_36 ?_
          refine so_getA 23 6 fr_X8_24_8 rfl sh_23 fx_23_6 dX8_alike_37 ?_
          refine st_iload_n (i := 1) rfl rfl dX8_alike_40 ?_
          refine so_iald (v := (m2 28 x1)) 28 rfl sh_28 (by decide) (s5 v1 m1 p1 h1 v2 m2 p2 h2 h3) rfl dX8_alike_41 (fun r3 => ?_)
          refine st_aload_n (i := 0) rfl (t := 0) rfl (by decide) dX8_alike_42 ?_
          refine so_getA 23 6 fr_X8_24_8 rfl sh_23 fx_23_6 dX8_alike_43 ?_
          refine st_iload_n (i := 2) rfl rfl dX8_alike_46 ?_
          refine so_iald (v := (m2 28 x2)) 28 rfl sh_28 (by decide) (s6 v1 m1 p1 h1 v2 m2 p2 h2 h3) rfl dX8_alike_47 (fun r4 => ?_)
          refine sr_icmp_ne 65 r3 r4 (by decide) dX8_alike_48 (fun h5 => ?_) (fun h5 => ?_)
          · have h5 : ¬ (m2 28 x1) = (m2 28 x2) := by omega
            refine st_iconst dX8_alike_65 ?_
            exact st_zreturn rfl (by decide) dX8_alike_66 (mQ.ret (q5 v1 m1 p1 h1 v2 m2 p2 h2 h3 h4 h5))
          · have h5 : (m2 28 x1) = (m2 28 x2) := by omega
            refine st_aload_n (i := 0) rfl (t := 0) rfl (by decide) dX8_alike_51 ?_
            refine so_getA 23 6 fr_X8_24_8 rfl sh_23 fx_23_6 dX8_alike_52 ?_
            refine st_iload_n (i := 1) rfl rfl dX8_alike_55 ?_
            refine so_iald (v := (m2 28 x1)) 28 rfl sh_28 (by decide) (s5 v1 m1 p1 h1 v2 m2 p2 h2 h3) rfl dX8_alike_56 (fun r5 => ?_)
            refine st_iconst dX8_alike_57 ?_
            refine sr_icmp_eq 65 r5 ⟨by decide, by decide⟩ (by decide) dX8_alike_58 (fun h6 => ?_) (fun h6 => ?_)
            · have h6 : (m2 28 x1) = (-1) := by omega
              refine st_iconst dX8_alike_65 ?_
              exact st_zreturn rfl (by decide) dX8_alike_66 (mQ.ret (q6 v1 m1 p1 h1 v2 m2 p2 h2 h3 h4 h5 h6))
            · have h6 : ¬ (m2 28 x1) = (-1) := by omega
              refine st_iconst dX8_alike_61 ?_
              refine st_goto 66 (by decide) dX8_alike_62 ?_
              exact st_zreturn rfl (by decide) dX8_alike_66 (mQ.ret (q7 v1 m1 p1 h1 v2 m2 p2 h2 h3 h4 h5 h6))

theorem bk_X8_likesOf_0 {d : Nat} {P : Int → mmM → Prop} {mem : mmM} {x1 : Int}
  (k1 : mmT bX8_likesOf d 0 0 (mQ 0 P) 4 [(2, 23), (0, x1), (0, 0), (0, 0)] [] mS mem)
  : mmT bX8_likesOf d 0 0 (mQ 0 P) 0 [(2, 23), (0, x1), (9, 0), (9, 0)] [] mS mem := by
  refine st_iconst dX8_likesOf_0 ?_
  refine st_istore_n (i := 2) rfl (by decide) (lc' := [(2, 23), (0, x1), (0, 0), (9, 0)]) rfl dX8_likesOf_1 ?_
  refine st_iconst dX8_likesOf_2 ?_
  refine st_istore_n (i := 3) rfl (by decide) (lc' := [(2, 23), (0, x1), (0, 0), (0, 0)]) rfl dX8_likesOf_3 ?_
  exact st_locals [(2, 23), (0, x1), (0, 0), (0, 0)] ⟨Or.inr rfl, Or.inr rfl, Or.inr rfl, Or.inr rfl, trivial⟩ k1

theorem bk_X8_likesOf_4 {d : Nat} {d1 : Nat} {P1 : Int → mmM → Prop} {P : Int → mmM → Prop} {mem : mmM} {x1 x2 x3 : Int}
  (c1 : x3 < (mem 23 1) → con 0 bX8_alike d1 [(2, 23), (0, x3), (0, x1)] mem P1)
  (hd_d1 : d1 + 1 ≤ d := by omega)
  (s1 : R32 x3 := by intros; omega)
  (s2 : x3 < (mem 23 1) → ∀ (v1 : Int), ∀ (m1 : mmM), P1 v1 m1 → R32 v1 := by intros; omega)
  (k1 : x3 < (mem 23 1) → ∀ (v1 : Int), ∀ (m1 : mmM), P1 v1 m1 → v1 = 0 → mmT bX8_likesOf d 0 0 (mQ 0 P) 4 [(2, 23), (0, x1), (0, (x2 + 0)), (0, (x3 + 1))] [] mS m1)
  (k2 : x3 < (mem 23 1) → ∀ (v1 : Int), ∀ (m1 : mmM), P1 v1 m1 → ¬ v1 = 0 → mmT bX8_likesOf d 0 0 (mQ 0 P) 4 [(2, 23), (0, x1), (0, (x2 + 1)), (0, (x3 + 1))] [] mS m1)
  (q1 : (mem 23 1) ≤ x3 → P x2 mem)
  : mmT bX8_likesOf d 0 0 (mQ 0 P) 4 [(2, 23), (0, x1), (0, x2), (0, x3)] [] mS mem := by
  refine st_iload_n (i := 3) rfl rfl dX8_likesOf_4 ?_
  refine st_aload_n (i := 0) rfl (t := 0) rfl (by decide) dX8_likesOf_5 ?_
  refine so_getI (v := (mem 23 1)) 23 1 fr_X8_60_8 rfl sh_23 rfl dX8_likesOf_6 (fun r1 => ?_)
  refine sr_icmp_ge 35 s1 r1 (by decide) dX8_likesOf_9 (fun h1 => ?_) (fun h1 => ?_)
  · have h1 : (mem 23 1) ≤ x3 := by omega
    refine st_iload_n (i := 2) rfl rfl dX8_likesOf_35 ?_
    exact st_ireturn rfl dX8_likesOf_36 (mQ.ret (q1 h1))
  · have h1 : x3 < (mem 23 1) := by omega
    refine st_iload_n (i := 2) rfl rfl dX8_likesOf_12 ?_
    refine st_aload_n (i := 0) rfl (t := 0) rfl (by decide) dX8_likesOf_13 ?_
    refine st_iload_n (i := 3) rfl rfl dX8_likesOf_14 ?_
    refine st_iload_n (i := 1) rfl rfl dX8_likesOf_15 ?_
    refine st_callV (kc2 := 0) (ks2 := 0) (av := [(0, x3), (0, x1)]) 23 8 mr_X8_77 ok_X8_alike (c1 h1) rfl sh_23 ⟨_, rfl, rfl, by decide⟩ rfl rfl hd_d1 (Nat.le_refl 0) (Nat.le_refl 0) (Nat.le_of_ble_eq_true rfl) dX8_likesOf_16 (mQ.elim fun v1 m1 p1 => ?_)
    refine sr_if_eq 26 (s2 h1 v1 m1 p1) (by decide) dX8_likesOf_19 (fun h2 => ?_) (fun h2 => ?_)
    · have h2 : v1 = 0 := by omega
      refine st_iconst dX8_likesOf_26 ?_
      refine st_iadd dX8_likesOf_27 ?_
      refine st_istore_n (i := 2) rfl (by decide) (lc' := [(2, 23), (0, x1), (0, (x2 + 0)), (0, x3)]) rfl dX8_likesOf_28 ?_
      refine st_iinc (y := (x3 + 1)) (by decide) (i := 3) rfl rfl (lc' := [(2, 23), (0, x1), (0, (x2 + 0)), (0, (x3 + 1))]) rfl dX8_likesOf_29 ?_
      refine st_goto 4 (by decide) dX8_likesOf_32 ?_
      exact st_locals [(2, 23), (0, x1), (0, (x2 + 0)), (0, (x3 + 1))] ⟨Or.inr rfl, Or.inr rfl, Or.inr rfl, Or.inr rfl, trivial⟩ (k1 h1 v1 m1 p1 h2)
    · have h2 : ¬ v1 = 0 := by omega
      refine st_iconst dX8_likesOf_22 ?_
      refine st_goto 27 (by decide) dX8_likesOf_23 ?_
      refine st_iadd dX8_likesOf_27 ?_
      refine st_istore_n (i := 2) rfl (by decide) (lc' := [(2, 23), (0, x1), (0, (x2 + 1)), (0, x3)]) rfl dX8_likesOf_28 ?_
      refine st_iinc (y := (x3 + 1)) (by decide) (i := 3) rfl rfl (lc' := [(2, 23), (0, x1), (0, (x2 + 1)), (0, (x3 + 1))]) rfl dX8_likesOf_29 ?_
      refine st_goto 4 (by decide) dX8_likesOf_32 ?_
      exact st_locals [(2, 23), (0, x1), (0, (x2 + 1)), (0, (x3 + 1))] ⟨Or.inr rfl, Or.inr rfl, Or.inr rfl, Or.inr rfl, trivial⟩ (k2 h1 v1 m1 p1 h2)

