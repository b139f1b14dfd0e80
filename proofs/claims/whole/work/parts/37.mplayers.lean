/-! players of M -/
theorem cn_X12_canBeOne {d : Nat} {P : Int → mmM → Prop} {mem : mmM} {x1 x2 x3 : Int} (h : mmT bX12_canBeOne d 0 0 (mQ 0 P) 0 [(2, 65), (0, x1), (0, x2), (0, x3), (9, 0), (9, 0)] [] mS mem) : con 0 bX12_canBeOne d [(2, 65), (0, x1), (0, x2), (0, x3)] mem P := mmC_of [(2, 65), (0, x1), (0, x2), (0, x3), (9, 0), (9, 0)] ok_X12_canBeOne.2.2.2.2 rfl (Nat.le_of_ble_eq_true rfl) h
theorem bk_X12_canBeOne_0 {d : Nat} {P : Int → mmM → Prop} {mem : mmM} {x1 x2 x3 : Int}
  (k1 : mmT bX12_canBeOne d 0 0 (mQ 0 P) 3 [(2, 65), (0, x1), (0, x2), (0, x3), (0, 0), (9, 0)] [] mS mem)
  : mmT bX12_canBeOne d 0 0 (mQ 0 P) 0 [(2, 65), (0, x1), (0, x2), (0, x3), (9, 0), (9, 0)] [] mS mem := by
  refine st_iconst dX12_canBeOne_0 ?_
  refine st_istore (by decide) (lc' := [(2, 65), (0, x1), (0, x2), (0, x3), (0, 0), (9, 0)]) rfl dX12_canBeOne_1 ?_
  exact st_locals [(2, 65), (0, x1), (0, x2), (0, x3), (0, 0), (9, 0)] ⟨Or.inr rfl, Or.inr rfl, Or.inr rfl, Or.inr rfl, Or.inr rfl, Or.inl rfl, trivial⟩ k1
theorem bk_X12_canBeOne_3 {d : Nat} {P : Int → mmM → Prop} {mem : mmM} {x1 x2 x3 x4 : Int}
  (k1 : x4 < (mem 65 27) → mmT bX12_canBeOne d 0 0 (mQ 0 P) 15 [(2, 65), (0, x1), (0, x2), (0, x3), (0, x4), (0, 0)] [] mS mem)
  (q1 : (mem 65 27) ≤ x4 → P 1 mem)
  (s1 : R32 x4 := by intros; first | omega | assumption | solve_by_elim)
  : mmT bX12_canBeOne d 0 0 (mQ 0 P) 3 [(2, 65), (0, x1), (0, x2), (0, x3), (0, x4), (9, 0)] [] mS mem := by
  refine st_iload rfl dX12_canBeOne_3 ?_
  refine st_aload_n (i := 0) rfl (t := 0) rfl (by decide) dX12_canBeOne_5 ?_
  refine so_getI (v := (mem 65 27)) 65 27 fr_X12_268_11 rfl sh_65 rfl dX12_canBeOne_6 (fun r1 => ?_)
  refine sr_icmp_ge 72 s1 r1 (by decide) dX12_canBeOne_9 (fun h1 => ?_) (fun h1 => ?_)
  · have h1 : (mem 65 27) ≤ x4 := by omega
    refine st_iconst dX12_canBeOne_72 ?_
    exact st_zreturn rfl (by decide) dX12_canBeOne_73 (mQ.ret (q1 h1))
  · have h1 : x4 < (mem 65 27) := by omega
    refine st_iconst dX12_canBeOne_12 ?_
    refine st_istore (by decide) (lc' := [(2, 65), (0, x1), (0, x2), (0, x3), (0, x4), (0, 0)]) rfl dX12_canBeOne_13 ?_
    exact st_locals [(2, 65), (0, x1), (0, x2), (0, x3), (0, x4), (0, 0)] ⟨Or.inr rfl, Or.inr rfl, Or.inr rfl, Or.inr rfl, Or.inr rfl, Or.inr rfl, trivial⟩ (k1 h1)
theorem bk_X12_canBeOne_15 {d : Nat} {P : Int → mmM → Prop} {mem : mmM} {x1 x2 x3 x4 x5 : Int}
  (k1 : (mem 65 27) ≤ x5 → mmT bX12_canBeOne d 0 0 (mQ 0 P) 3 [(2, 65), (0, x1), (0, x2), (0, x3), (0, (x4 + 1)), (9, 0)] [] mS mem)
  (k2 : x5 < (mem 65 27) → ¬ (mem 79 x4) = x1 → mmT bX12_canBeOne d 0 0 (mQ 0 P) 15 [(2, 65), (0, x1), (0, x2), (0, x3), (0, x4), (0, (x5 + 1))] [] mS mem)
  (k3 : x5 < (mem 65 27) → (mem 79 x4) = x1 → ¬ (mem 79 x5) = x2 → mmT bX12_canBeOne d 0 0 (mQ 0 P) 15 [(2, 65), (0, x1), (0, x2), (0, x3), (0, x4), (0, (x5 + 1))] [] mS mem)
  (k4 : x5 < (mem 65 27) → (mem 79 x4) = x1 → (mem 79 x5) = x2 → x3 ≤ (if 0 ≤ (x4 - x5) then (x4 - x5) else -(x4 - x5)) → mmT bX12_canBeOne d 0 0 (mQ 0 P) 15 [(2, 65), (0, x1), (0, x2), (0, x3), (0, x4), (0, (x5 + 1))] [] mS mem)
  (q1 : x5 < (mem 65 27) → (mem 79 x4) = x1 → (mem 79 x5) = x2 → (if 0 ≤ (x4 - x5) then (x4 - x5) else -(x4 - x5)) < x3 → P 0 mem)
  (hd1 : 1 ≤ d := by omega)
  (s1 : R32 x5 := by intros; first | omega | assumption | solve_by_elim)
  (s2 : x5 < (mem 65 27) → 0 ≤ x4 ∧ x4 < 24 := by intros; first | omega | assumption | solve_by_elim)
  (s3 : x5 < (mem 65 27) → R32 x1 := by intros; first | omega | assumption | solve_by_elim)
  (s4 : x5 < (mem 65 27) → (mem 79 x4) = x1 → 0 ≤ x5 ∧ x5 < 24 := by intros; first | omega | assumption | solve_by_elim)
  (s5 : x5 < (mem 65 27) → (mem 79 x4) = x1 → R32 x2 := by intros; first | omega | assumption | solve_by_elim)
  (s6 : x5 < (mem 65 27) → (mem 79 x4) = x1 → (mem 79 x5) = x2 → (-2147483648) < (x4 - x5) ∧ (x4 - x5) < 2147483648 := by intros; first | omega | assumption | solve_by_elim)
  (s7 : x5 < (mem 65 27) → (mem 79 x4) = x1 → (mem 79 x5) = x2 → R32 (if 0 ≤ (x4 - x5) then (x4 - x5) else -(x4 - x5)) := by intros; first | omega | assumption | solve_by_elim)
  (s8 : x5 < (mem 65 27) → (mem 79 x4) = x1 → (mem 79 x5) = x2 → R32 x3 := by intros; first | omega | assumption | solve_by_elim)
  : mmT bX12_canBeOne d 0 0 (mQ 0 P) 15 [(2, 65), (0, x1), (0, x2), (0, x3), (0, x4), (0, x5)] [] mS mem := by
  refine st_iload rfl dX12_canBeOne_15 ?_
  refine st_aload_n (i := 0) rfl (t := 0) rfl (by decide) dX12_canBeOne_17 ?_
  refine so_getI (v := (mem 65 27)) 65 27 fr_X12_268_11 rfl sh_65 rfl dX12_canBeOne_18 (fun r1 => ?_)
  refine sr_icmp_ge 66 s1 r1 (by decide) dX12_canBeOne_21 (fun h1 => ?_) (fun h1 => ?_)
  · have h1 : (mem 65 27) ≤ x5 := by omega
    refine st_iinc (y := (x4 + 1)) (by decide) (i := 4) rfl rfl (lc' := [(2, 65), (0, x1), (0, x2), (0, x3), (0, (x4 + 1)), (0, x5)]) rfl dX12_canBeOne_66 ?_
    refine st_goto 3 (by decide) dX12_canBeOne_69 ?_
    exact st_locals [(2, 65), (0, x1), (0, x2), (0, x3), (0, (x4 + 1)), (9, 0)] ⟨Or.inr rfl, Or.inr rfl, Or.inr rfl, Or.inr rfl, Or.inr rfl, Or.inl rfl, trivial⟩ (k1 h1)
  · have h1 : x5 < (mem 65 27) := by omega
    refine st_aload_n (i := 0) rfl (t := 0) rfl (by decide) dX12_canBeOne_24 ?_
    refine so_getA 65 22 fr_X12_49_11 rfl sh_65 fx_65_22 dX12_canBeOne_25 ?_
    refine st_iload rfl dX12_canBeOne_28 ?_
    refine so_iald (v := (mem 79 x4)) 79 rfl sh_79 (by decide) (s2 h1) rfl dX12_canBeOne_30 (fun r2 => ?_)
    refine st_iload_n (i := 1) rfl rfl dX12_canBeOne_31 ?_
    refine sr_icmp_ne 60 r2 (s3 h1) (by decide) dX12_canBeOne_32 (fun h2 => ?_) (fun h2 => ?_)
    · have h2 : ¬ (mem 79 x4) = x1 := by omega
      refine st_iinc (y := (x5 + 1)) (by decide) (i := 5) rfl rfl (lc' := [(2, 65), (0, x1), (0, x2), (0, x3), (0, x4), (0, (x5 + 1))]) rfl dX12_canBeOne_60 ?_
      refine st_goto 15 (by decide) dX12_canBeOne_63 ?_
      exact st_locals [(2, 65), (0, x1), (0, x2), (0, x3), (0, x4), (0, (x5 + 1))] ⟨Or.inr rfl, Or.inr rfl, Or.inr rfl, Or.inr rfl, Or.inr rfl, Or.inr rfl, trivial⟩ (k2 h1 h2)
    · have h2 : (mem 79 x4) = x1 := by omega
      refine st_aload_n (i := 0) rfl (t := 0) rfl (by decide) dX12_canBeOne_35 ?_
      refine so_getA 65 22 fr_X12_49_11 rfl sh_65 fx_65_22 dX12_canBeOne_36 ?_
      refine st_iload rfl dX12_canBeOne_39 ?_
      refine so_iald (v := (mem 79 x5)) 79 rfl sh_79 (by decide) (s4 h1 h2) rfl dX12_canBeOne_41 (fun r3 => ?_)
      refine st_iload_n (i := 2) rfl rfl dX12_canBeOne_42 ?_
      refine sr_icmp_ne 60 r3 (s5 h1 h2) (by decide) dX12_canBeOne_43 (fun h3 => ?_) (fun h3 => ?_)
      · have h3 : ¬ (mem 79 x5) = x2 := by omega
        refine st_iinc (y := (x5 + 1)) (by decide) (i := 5) rfl rfl (lc' := [(2, 65), (0, x1), (0, x2), (0, x3), (0, x4), (0, (x5 + 1))]) rfl dX12_canBeOne_60 ?_
        refine st_goto 15 (by decide) dX12_canBeOne_63 ?_
        exact st_locals [(2, 65), (0, x1), (0, x2), (0, x3), (0, x4), (0, (x5 + 1))] ⟨Or.inr rfl, Or.inr rfl, Or.inr rfl, Or.inr rfl, Or.inr rfl, Or.inr rfl, trivial⟩ (k3 h1 h2 h3)
      · have h3 : (mem 79 x5) = x2 := by omega
        refine st_iload rfl dX12_canBeOne_46 ?_
        refine st_iload rfl dX12_canBeOne_48 ?_
        refine st_isub dX12_canBeOne_50 ?_
        refine sr_mabs (s6 h1 h2 h3) mr_X12_390 ms_absi mi_Math mc_absi hd1 (Nat.le_of_ble_eq_true rfl) dX12_canBeOne_51 ?_
        refine st_iload_n (i := 3) rfl rfl dX12_canBeOne_54 ?_
        refine sr_icmp_ge 60 (s7 h1 h2 h3) (s8 h1 h2 h3) (by decide) dX12_canBeOne_55 (fun h4 => ?_) (fun h4 => ?_)
        · have h4 : x3 ≤ (if 0 ≤ (x4 - x5) then (x4 - x5) else -(x4 - x5)) := by omega
          refine st_iinc (y := (x5 + 1)) (by decide) (i := 5) rfl rfl (lc' := [(2, 65), (0, x1), (0, x2), (0, x3), (0, x4), (0, (x5 + 1))]) rfl dX12_canBeOne_60 ?_
          refine st_goto 15 (by decide) dX12_canBeOne_63 ?_
          exact st_locals [(2, 65), (0, x1), (0, x2), (0, x3), (0, x4), (0, (x5 + 1))] ⟨Or.inr rfl, Or.inr rfl, Or.inr rfl, Or.inr rfl, Or.inr rfl, Or.inr rfl, trivial⟩ (k4 h1 h2 h3 h4)
        · have h4 : (if 0 ≤ (x4 - x5) then (x4 - x5) else -(x4 - x5)) < x3 := by omega
          refine st_iconst dX12_canBeOne_58 ?_
          exact st_zreturn rfl (by decide) dX12_canBeOne_59 (mQ.ret (q1 h1 h2 h3 h4))
theorem cn_X12_areOne {d : Nat} {P : Int → mmM → Prop} {mem : mmM} {x1 x2 : Int} (h : mmT bX12_areOne d 0 0 (mQ 0 P) 0 [(2, 65), (0, x1), (0, x2), (9, 0), (9, 0)] [] mS mem) : con 0 bX12_areOne d [(2, 65), (0, x1), (0, x2)] mem P := mmC_of [(2, 65), (0, x1), (0, x2), (9, 0), (9, 0)] ok_X12_areOne.2.2.2.2 rfl (Nat.le_of_ble_eq_true rfl) h
theorem bk_X12_areOne_0 {d : Nat} {P : Int → mmM → Prop} {mem : mmM} {x1 x2 : Int}
  (k1 : mmT bX12_areOne d 0 0 (mQ 0 P) 2 [(2, 65), (0, x1), (0, x2), (0, 0), (9, 0)] [] mS mem)
  : mmT bX12_areOne d 0 0 (mQ 0 P) 0 [(2, 65), (0, x1), (0, x2), (9, 0), (9, 0)] [] mS mem := by
  refine st_iconst dX12_areOne_0 ?_
  refine st_istore_n (i := 3) rfl (by decide) (lc' := [(2, 65), (0, x1), (0, x2), (0, 0), (9, 0)]) rfl dX12_areOne_1 ?_
  exact st_locals [(2, 65), (0, x1), (0, x2), (0, 0), (9, 0)] ⟨Or.inr rfl, Or.inr rfl, Or.inr rfl, Or.inr rfl, Or.inl rfl, trivial⟩ k1
theorem bk_X12_areOne_2 {d : Nat} {P : Int → mmM → Prop} {mem : mmM} {x1 x2 x3 : Int}
  (k1 : x3 < 8 → mmT bX12_areOne d 0 0 (mQ 0 P) 11 [(2, 65), (0, x1), (0, x2), (0, x3), (0, 0)] [] mS mem)
  (q1 : 8 ≤ x3 → P 1 mem)
  (s1 : R32 x3 := by intros; first | omega | assumption | solve_by_elim)
  : mmT bX12_areOne d 0 0 (mQ 0 P) 2 [(2, 65), (0, x1), (0, x2), (0, x3), (9, 0)] [] mS mem := by
  refine st_iload_n (i := 3) rfl rfl dX12_areOne_2 ?_
  refine st_bipush rfl dX12_areOne_3 ?_
  refine sr_icmp_ge 59 s1 ⟨by decide, by decide⟩ (by decide) dX12_areOne_5 (fun h1 => ?_) (fun h1 => ?_)
  · have h1 : 8 ≤ x3 := by omega
    refine st_iconst dX12_areOne_59 ?_
    exact st_zreturn rfl (by decide) dX12_areOne_60 (mQ.ret (q1 h1))
  · have h1 : x3 < 8 := by omega
    refine st_iconst dX12_areOne_8 ?_
    refine st_istore (by decide) (lc' := [(2, 65), (0, x1), (0, x2), (0, x3), (0, 0)]) rfl dX12_areOne_9 ?_
    exact st_locals [(2, 65), (0, x1), (0, x2), (0, x3), (0, 0)] ⟨Or.inr rfl, Or.inr rfl, Or.inr rfl, Or.inr rfl, Or.inr rfl, trivial⟩ (k1 h1)
theorem bk_X12_areOne_11 {d : Nat} {d1 : Nat} {P1 : Int → mmM → Prop} {P : Int → mmM → Prop} {mem : mmM} {x1 x2 x3 x4 : Int}
  (c1 : x4 < x3 → (and32 (shr32 x1 x3) 1 = 1) → (and32 (shr32 x1 x4) 1 = 1) → con 0 bX12_canBeOne d1 [(2, 65), (0, x3), (0, x4), (0, x2)] mem P1)
  (k1 : x3 ≤ x4 → mmT bX12_areOne d 0 0 (mQ 0 P) 2 [(2, 65), (0, x1), (0, x2), (0, (x3 + 1)), (9, 0)] [] mS mem)
  (k2 : x4 < x3 → ¬ (and32 (shr32 x1 x3) 1 = 1) → mmT bX12_areOne d 0 0 (mQ 0 P) 11 [(2, 65), (0, x1), (0, x2), (0, x3), (0, (x4 + 1))] [] mS mem)
  (k3 : x4 < x3 → (and32 (shr32 x1 x3) 1 = 1) → ¬ (and32 (shr32 x1 x4) 1 = 1) → mmT bX12_areOne d 0 0 (mQ 0 P) 11 [(2, 65), (0, x1), (0, x2), (0, x3), (0, (x4 + 1))] [] mS mem)
  (k4 : x4 < x3 → (and32 (shr32 x1 x3) 1 = 1) → (and32 (shr32 x1 x4) 1 = 1) → ∀ (v3 : Int), ∀ (m3 : mmM), P1 v3 m3 → ¬ v3 = 0 → mmT bX12_areOne d 0 0 (mQ 0 P) 11 [(2, 65), (0, x1), (0, x2), (0, x3), (0, (x4 + 1))] [] mS m3)
  (q1 : x4 < x3 → (and32 (shr32 x1 x3) 1 = 1) → (and32 (shr32 x1 x4) 1 = 1) → ∀ (v3 : Int), ∀ (m3 : mmM), P1 v3 m3 → v3 = 0 → P 0 m3)
  (hd_d1 : d1 + 1 ≤ d := by omega)
  (hd2 : 2 ≤ d := by omega)
  (s1 : R32 x4 := by intros; first | omega | assumption | solve_by_elim)
  (s2 : R32 x3 := by intros; first | omega | assumption | solve_by_elim)
  (s3 : x4 < x3 → (and32 (shr32 x1 x3) 1 = 1) → (and32 (shr32 x1 x4) 1 = 1) → ∀ (v3 : Int), ∀ (m3 : mmM), P1 v3 m3 → R32 v3 := by intros; first | omega | assumption | solve_by_elim)
  : mmT bX12_areOne d 0 0 (mQ 0 P) 11 [(2, 65), (0, x1), (0, x2), (0, x3), (0, x4)] [] mS mem := by
  refine st_iload rfl dX12_areOne_11 ?_
  refine st_iload_n (i := 3) rfl rfl dX12_areOne_13 ?_
  refine sr_icmp_ge 53 s1 s2 (by decide) dX12_areOne_14 (fun h1 => ?_) (fun h1 => ?_)
  · have h1 : x3 ≤ x4 := by omega
    refine st_iinc (y := (x3 + 1)) (by decide) (i := 3) rfl rfl (lc' := [(2, 65), (0, x1), (0, x2), (0, (x3 + 1)), (0, x4)]) rfl dX12_areOne_53 ?_
    refine st_goto 2 (by decide) dX12_areOne_56 ?_
    exact st_locals [(2, 65), (0, x1), (0, x2), (0, (x3 + 1)), (9, 0)] ⟨Or.inr rfl, Or.inr rfl, Or.inr rfl, Or.inr rfl, Or.inl rfl, trivial⟩ (k1 h1)
  · have h1 : x4 < x3 := by omega
    refine st_iload_n (i := 1) rfl rfl dX12_areOne_17 ?_
    refine st_iload_n (i := 3) rfl rfl dX12_areOne_18 ?_
    refine st_callS (kc2 := 0) (ks2 := 0) (av := [(0, x1), (0, x3)]) mr_X12_271 ok_X12_has (c_X12_has mem x1 x3 ) rfl rfl hd2 (Nat.le_refl 0) (Nat.le_refl 0) (Nat.le_of_ble_eq_true rfl) dX12_areOne_19 (mQ.elim fun v1 m1 hp => ?_)
    obtain ⟨hpv, hpm⟩ := hp
    subst hpv
    have hpm := hpm.symm
    subst hpm
    refine so_ifeqB 47 (by decide) dX12_areOne_22 (fun h2 => ?_) (fun h2 => ?_)
    · have h2 : ¬ (and32 (shr32 x1 x3) 1 = 1) := h2
      refine st_iinc (y := (x4 + 1)) (by decide) (i := 4) rfl rfl (lc' := [(2, 65), (0, x1), (0, x2), (0, x3), (0, (x4 + 1))]) rfl dX12_areOne_47 ?_
      refine st_goto 11 (by decide) dX12_areOne_50 ?_
      exact st_locals [(2, 65), (0, x1), (0, x2), (0, x3), (0, (x4 + 1))] ⟨Or.inr rfl, Or.inr rfl, Or.inr rfl, Or.inr rfl, Or.inr rfl, trivial⟩ (k2 h1 h2)
    · have h2 : (and32 (shr32 x1 x3) 1 = 1) := h2
      refine st_iload_n (i := 1) rfl rfl dX12_areOne_25 ?_
      refine st_iload rfl dX12_areOne_26 ?_
      refine st_callS (kc2 := 0) (ks2 := 0) (av := [(0, x1), (0, x4)]) mr_X12_271 ok_X12_has (c_X12_has mem x1 x4 ) rfl rfl hd2 (Nat.le_refl 0) (Nat.le_refl 0) (Nat.le_of_ble_eq_true rfl) dX12_areOne_28 (mQ.elim fun v2 m2 hp => ?_)
      obtain ⟨hpv, hpm⟩ := hp
      subst hpv
      have hpm := hpm.symm
      subst hpm
      refine so_ifeqB 47 (by decide) dX12_areOne_31 (fun h3 => ?_) (fun h3 => ?_)
      · have h3 : ¬ (and32 (shr32 x1 x4) 1 = 1) := h3
        refine st_iinc (y := (x4 + 1)) (by decide) (i := 4) rfl rfl (lc' := [(2, 65), (0, x1), (0, x2), (0, x3), (0, (x4 + 1))]) rfl dX12_areOne_47 ?_
        refine st_goto 11 (by decide) dX12_areOne_50 ?_
        exact st_locals [(2, 65), (0, x1), (0, x2), (0, x3), (0, (x4 + 1))] ⟨Or.inr rfl, Or.inr rfl, Or.inr rfl, Or.inr rfl, Or.inr rfl, trivial⟩ (k3 h1 h2 h3)
      · have h3 : (and32 (shr32 x1 x4) 1 = 1) := h3
        refine st_aload_n (i := 0) rfl (t := 0) rfl (by decide) dX12_areOne_34 ?_
        refine st_iload_n (i := 3) rfl rfl dX12_areOne_35 ?_
        refine st_iload rfl dX12_areOne_36 ?_
        refine st_iload_n (i := 2) rfl rfl dX12_areOne_38 ?_
        refine st_callV (kc2 := 0) (ks2 := 0) (av := [(0, x3), (0, x4), (0, x2)]) 65 11 mr_X12_420 ok_X12_canBeOne (c1 h1 h2 h3) rfl sh_65 ⟨_, rfl, rfl, by decide⟩ rfl rfl hd_d1 (Nat.le_refl 0) (Nat.le_refl 0) (Nat.le_of_ble_eq_true rfl) dX12_areOne_39 (mQ.elim fun v3 m3 p1 => ?_)
        refine sr_if_ne 47 (s3 h1 h2 h3 v3 m3 p1) (by decide) dX12_areOne_42 (fun h4 => ?_) (fun h4 => ?_)
        · have h4 : ¬ v3 = 0 := by omega
          refine st_iinc (y := (x4 + 1)) (by decide) (i := 4) rfl rfl (lc' := [(2, 65), (0, x1), (0, x2), (0, x3), (0, (x4 + 1))]) rfl dX12_areOne_47 ?_
          refine st_goto 11 (by decide) dX12_areOne_50 ?_
          exact st_locals [(2, 65), (0, x1), (0, x2), (0, x3), (0, (x4 + 1))] ⟨Or.inr rfl, Or.inr rfl, Or.inr rfl, Or.inr rfl, Or.inr rfl, trivial⟩ (k4 h1 h2 h3 v3 m3 p1 h4)
        · have h4 : v3 = 0 := by omega
          refine st_iconst dX12_areOne_45 ?_
          exact st_zreturn rfl (by decide) dX12_areOne_46 (mQ.ret (q1 h1 h2 h3 v3 m3 p1 h4))
theorem cn_X12_players {d : Nat} {P : Int → mmM → Prop} {mem : mmM} {x1 x2 : Int} (h : mmT bX12_players d 0 0 (mQ 0 P) 0 [(2, 65), (0, x1), (0, x2), (9, 0), (9, 0), (9, 0), (9, 0), (9, 0)] [] mS mem) : con 0 bX12_players d [(2, 65), (0, x1), (0, x2)] mem P := mmC_of [(2, 65), (0, x1), (0, x2), (9, 0), (9, 0), (9, 0), (9, 0), (9, 0)] ok_X12_players.2.2.2.2 rfl (Nat.le_of_ble_eq_true rfl) h
theorem bk_X12_players_0 {d : Nat} {d1 : Nat} {P1 : Int → mmM → Prop} {d2 : Nat} {P2 : Int → mmM → Prop} {d3 : Nat} {P3 : Int → mmM → Prop} {P : Int → mmM → Prop} {mem : mmM} {x1 x2 : Int}
  (c1 : ¬ (mem 65 27) = 0 → (1 ≤ x1 ∧ x1 ≤ 24) → x2 = (-1) → con 0 bX12_actors d1 [(2, 65)] mem P1)
  (c2 : ¬ (mem 65 27) = 0 → (1 ≤ x1 ∧ x1 ≤ 24) → ¬ x2 = (-1) → (0 ≤ x2 ∧ x2 ≤ 7) → con 0 bX12_actors d2 [(2, 65)] mem P2)
  (c3 : ¬ (mem 65 27) = 0 → (1 ≤ x1 ∧ x1 ≤ 24) → ¬ x2 = (-1) → (0 ≤ x2 ∧ x2 ≤ 7) → ∀ (v4 : Int), ∀ (m4 : mmM), P2 v4 m4 → (and32 (shr32 v4 x2) 1 = 1) → con 0 bX12_actors d3 [(2, 65)] m4 P3)
  (k1 : ¬ (mem 65 27) = 0 → (1 ≤ x1 ∧ x1 ≤ 24) → x2 = (-1) → ∀ (v2 : Int), ∀ (m2 : mmM), P1 v2 m2 → mmT bX12_players d 0 0 (mQ 0 P) 53 [(2, 65), (0, x1), (0, x2), (0, v2), (0, 0), (0, 0), (9, 0), (9, 0)] [] mS m2)
  (k2 : ¬ (mem 65 27) = 0 → (1 ≤ x1 ∧ x1 ≤ 24) → ¬ x2 = (-1) → (0 ≤ x2 ∧ x2 ≤ 7) → ∀ (v4 : Int), ∀ (m4 : mmM), P2 v4 m4 → (and32 (shr32 v4 x2) 1 = 1) → ∀ (v6 : Int), ∀ (m6 : mmM), P3 v6 m6 → mmT bX12_players d 0 0 (mQ 0 P) 53 [(2, 65), (0, x1), (0, x2), (0, v6), (0, 0), (0, 0), (9, 0), (9, 0)] [] mS m6)
  (q1 : (mem 65 27) = 0 → P (-1) mem)
  (q2 : ¬ (mem 65 27) = 0 → ¬ (1 ≤ x1 ∧ x1 ≤ 24) → P (-1) mem)
  (q3 : ¬ (mem 65 27) = 0 → (1 ≤ x1 ∧ x1 ≤ 24) → ¬ x2 = (-1) → ¬ (0 ≤ x2 ∧ x2 ≤ 7) → P (-1) mem)
  (q4 : ¬ (mem 65 27) = 0 → (1 ≤ x1 ∧ x1 ≤ 24) → ¬ x2 = (-1) → (0 ≤ x2 ∧ x2 ≤ 7) → ∀ (v4 : Int), ∀ (m4 : mmM), P2 v4 m4 → ¬ (and32 (shr32 v4 x2) 1 = 1) → P (-1) m4)
  (hd_d1 : d1 + 1 ≤ d := by omega)
  (hd_d2 : d2 + 1 ≤ d := by omega)
  (hd_d3 : d3 + 1 ≤ d := by omega)
  (hd2 : 2 ≤ d := by omega)
  (hd3 : 3 ≤ d := by omega)
  (s1 : ¬ (mem 65 27) = 0 → R32 x1 := by intros; first | omega | assumption | solve_by_elim)
  (s2 : ¬ (mem 65 27) = 0 → (1 ≤ x1 ∧ x1 ≤ 24) → R32 x2 := by intros; first | omega | assumption | solve_by_elim)
  : mmT bX12_players d 0 0 (mQ 0 P) 0 [(2, 65), (0, x1), (0, x2), (9, 0), (9, 0), (9, 0), (9, 0), (9, 0)] [] mS mem := by
  refine st_aload_n (i := 0) rfl (t := 0) rfl (by decide) dX12_players_0 ?_
  refine so_getI (v := (mem 65 27)) 65 27 fr_X12_268_11 rfl sh_65 rfl dX12_players_1 (fun r1 => ?_)
  refine sr_if_eq 40 r1 (by decide) dX12_players_4 (fun h1 => ?_) (fun h1 => ?_)
  · have h1 : (mem 65 27) = 0 := by omega
    refine st_iconst dX12_players_40 ?_
    exact st_ireturn rfl dX12_players_41 (mQ.ret (q1 h1))
  · have h1 : ¬ (mem 65 27) = 0 := by omega
    refine st_iload_n (i := 1) rfl rfl dX12_players_7 ?_
    refine st_iconst dX12_players_8 ?_
    refine st_bipush rfl dX12_players_9 ?_
    refine st_callS (kc2 := 0) (ks2 := 0) (av := [(0, x1), (0, 1), (0, 24)]) mr_X12_229 ok_X12_in (c_X12_in mem x1 1 24 ((s1 h1)) (⟨by decide, by decide⟩) (⟨by decide, by decide⟩)) rfl rfl hd2 (Nat.le_refl 0) (Nat.le_refl 0) (Nat.le_of_ble_eq_true rfl) dX12_players_11 (mQ.elim fun v1 m1 hp => ?_)
    obtain ⟨hpv, hpm⟩ := hp
    subst hpv
    have hpm := hpm.symm
    subst hpm
    refine so_ifeqB 40 (by decide) dX12_players_14 (fun h2 => ?_) (fun h2 => ?_)
    · have h2 : ¬ (1 ≤ x1 ∧ x1 ≤ 24) := h2
      refine st_iconst dX12_players_40 ?_
      exact st_ireturn rfl dX12_players_41 (mQ.ret (q2 h1 h2))
    · have h2 : (1 ≤ x1 ∧ x1 ≤ 24) := h2
      refine st_iload_n (i := 2) rfl rfl dX12_players_17 ?_
      refine st_iconst dX12_players_18 ?_
      refine sr_icmp_eq 42 (s2 h1 h2) ⟨by decide, by decide⟩ (by decide) dX12_players_19 (fun h3 => ?_) (fun h3 => ?_)
      · have h3 : x2 = (-1) := by omega
        refine st_aload_n (i := 0) rfl (t := 0) rfl (by decide) dX12_players_42 ?_
        refine st_callV (kc2 := 0) (ks2 := 0) (av := []) 65 11 mr_X12_417 ok_X12_actors (c1 h1 h2 h3) rfl sh_65 ⟨_, rfl, rfl, by decide⟩ rfl rfl hd_d1 (Nat.le_refl 0) (Nat.le_refl 0) (Nat.le_of_ble_eq_true rfl) dX12_players_43 (mQ.elim fun v2 m2 p1 => ?_)
        refine st_istore_n (i := 3) rfl (by decide) (lc' := [(2, 65), (0, x1), (0, x2), (0, v2), (9, 0), (9, 0), (9, 0), (9, 0)]) rfl dX12_players_46 ?_
        refine st_iconst dX12_players_47 ?_
        refine st_istore (by decide) (lc' := [(2, 65), (0, x1), (0, x2), (0, v2), (0, 0), (9, 0), (9, 0), (9, 0)]) rfl dX12_players_48 ?_
        refine st_iconst dX12_players_50 ?_
        refine st_istore (by decide) (lc' := [(2, 65), (0, x1), (0, x2), (0, v2), (0, 0), (0, 0), (9, 0), (9, 0)]) rfl dX12_players_51 ?_
        exact st_locals [(2, 65), (0, x1), (0, x2), (0, v2), (0, 0), (0, 0), (9, 0), (9, 0)] ⟨Or.inr rfl, Or.inr rfl, Or.inr rfl, Or.inr rfl, Or.inr rfl, Or.inr rfl, Or.inl rfl, Or.inl rfl, trivial⟩ (k1 h1 h2 h3 v2 m2 p1)
      · have h3 : ¬ x2 = (-1) := by omega
        refine st_iload_n (i := 2) rfl rfl dX12_players_22 ?_
        refine st_callS (kc2 := 0) (ks2 := 0) (av := [(0, x2)]) mr_X12_323 ok_X12_isActor (c_X12_isActor mem x2 ((s2 h1 h2))) rfl rfl hd3 (Nat.le_refl 0) (Nat.le_refl 0) (Nat.le_of_ble_eq_true rfl) dX12_players_23 (mQ.elim fun v3 m3 hp => ?_)
        obtain ⟨hpv, hpm⟩ := hp
        subst hpv
        have hpm := hpm.symm
        subst hpm
        refine so_ifeqB 40 (by decide) dX12_players_26 (fun h4 => ?_) (fun h4 => ?_)
        · have h4 : ¬ (0 ≤ x2 ∧ x2 ≤ 7) := h4
          refine st_iconst dX12_players_40 ?_
          exact st_ireturn rfl dX12_players_41 (mQ.ret (q3 h1 h2 h3 h4))
        · have h4 : (0 ≤ x2 ∧ x2 ≤ 7) := h4
          refine st_aload_n (i := 0) rfl (t := 0) rfl (by decide) dX12_players_29 ?_
          refine st_callV (kc2 := 0) (ks2 := 0) (av := []) 65 11 mr_X12_417 ok_X12_actors (c2 h1 h2 h3 h4) rfl sh_65 ⟨_, rfl, rfl, by decide⟩ rfl rfl hd_d2 (Nat.le_refl 0) (Nat.le_refl 0) (Nat.le_of_ble_eq_true rfl) dX12_players_30 (mQ.elim fun v4 m4 p2 => ?_)
          refine st_iload_n (i := 2) rfl rfl dX12_players_33 ?_
          refine st_callS (kc2 := 0) (ks2 := 0) (av := [(0, v4), (0, x2)]) mr_X12_271 ok_X12_has (c_X12_has m4 v4 x2 ) rfl rfl hd2 (Nat.le_refl 0) (Nat.le_refl 0) (Nat.le_of_ble_eq_true rfl) dX12_players_34 (mQ.elim fun v5 m5 hp => ?_)
          obtain ⟨hpv, hpm⟩ := hp
          subst hpv
          have hpm := hpm.symm
          subst hpm
          refine so_ifneB 42 (by decide) dX12_players_37 (fun h5 => ?_) (fun h5 => ?_)
          · have h5 : (and32 (shr32 v4 x2) 1 = 1) := h5
            refine st_aload_n (i := 0) rfl (t := 0) rfl (by decide) dX12_players_42 ?_
            refine st_callV (kc2 := 0) (ks2 := 0) (av := []) 65 11 mr_X12_417 ok_X12_actors (c3 h1 h2 h3 h4 v4 m4 p2 h5) rfl sh_65 ⟨_, rfl, rfl, by decide⟩ rfl rfl hd_d3 (Nat.le_refl 0) (Nat.le_refl 0) (Nat.le_of_ble_eq_true rfl) dX12_players_43 (mQ.elim fun v6 m6 p3 => ?_)
            refine st_istore_n (i := 3) rfl (by decide) (lc' := [(2, 65), (0, x1), (0, x2), (0, v6), (9, 0), (9, 0), (9, 0), (9, 0)]) rfl dX12_players_46 ?_
            refine st_iconst dX12_players_47 ?_
            refine st_istore (by decide) (lc' := [(2, 65), (0, x1), (0, x2), (0, v6), (0, 0), (9, 0), (9, 0), (9, 0)]) rfl dX12_players_48 ?_
            refine st_iconst dX12_players_50 ?_
            refine st_istore (by decide) (lc' := [(2, 65), (0, x1), (0, x2), (0, v6), (0, 0), (0, 0), (9, 0), (9, 0)]) rfl dX12_players_51 ?_
            exact st_locals [(2, 65), (0, x1), (0, x2), (0, v6), (0, 0), (0, 0), (9, 0), (9, 0)] ⟨Or.inr rfl, Or.inr rfl, Or.inr rfl, Or.inr rfl, Or.inr rfl, Or.inr rfl, Or.inl rfl, Or.inl rfl, trivial⟩ (k2 h1 h2 h3 h4 v4 m4 p2 h5 v6 m6 p3)
          · have h5 : ¬ (and32 (shr32 v4 x2) 1 = 1) := h5
            refine st_iconst dX12_players_40 ?_
            exact st_ireturn rfl dX12_players_41 (mQ.ret (q4 h1 h2 h3 h4 v4 m4 p2 h5))
theorem bk_X12_players_53 {d : Nat} {d1 : Nat} {P1 : Int → mmM → Prop} {P : Int → mmM → Prop} {mem : mmM} {x1 x2 x3 x4 x5 : Int}
  (c1 : x5 < 8 → ¬ x2 = (-1) → ¬ x5 = x2 → (and32 (shr32 x3 x5) 1 = 1) → con 0 bX12_canBeOne d1 [(2, 65), (0, x2), (0, x5), (0, x1)] mem P1)
  (k1 : 8 ≤ x5 → x2 = (-1) → mmT bX12_players d 0 0 (mQ 0 P) 121 [(2, 65), (0, x1), (9, 0), (0, x3), (9, 0), (0, 0), (9, 0), (9, 0)] [] mS mem)
  (k2 : x5 < 8 → x2 = (-1) → x2 = (-1) → mmT bX12_players d 0 0 (mQ 0 P) 121 [(2, 65), (0, x1), (9, 0), (0, x3), (9, 0), (0, 0), (9, 0), (9, 0)] [] mS mem)
  (k3 : x5 < 8 → ¬ x2 = (-1) → x5 = x2 → mmT bX12_players d 0 0 (mQ 0 P) 53 [(2, 65), (0, x1), (0, x2), (0, x3), (0, (or32 x4 0)), (0, (x5 + 1)), (9, 0), (9, 0)] [] mS mem)
  (k4 : x5 < 8 → ¬ x2 = (-1) → ¬ x5 = x2 → ¬ (and32 (shr32 x3 x5) 1 = 1) → mmT bX12_players d 0 0 (mQ 0 P) 53 [(2, 65), (0, x1), (0, x2), (0, x3), (0, (or32 x4 0)), (0, (x5 + 1)), (9, 0), (9, 0)] [] mS mem)
  (k5 : x5 < 8 → ¬ x2 = (-1) → ¬ x5 = x2 → (and32 (shr32 x3 x5) 1 = 1) → ∀ (v2 : Int), ∀ (m2 : mmM), P1 v2 m2 → v2 = 0 → mmT bX12_players d 0 0 (mQ 0 P) 53 [(2, 65), (0, x1), (0, x2), (0, x3), (0, (or32 x4 0)), (0, (x5 + 1)), (9, 0), (9, 0)] [] mS m2)
  (k6 : x5 < 8 → ¬ x2 = (-1) → ¬ x5 = x2 → (and32 (shr32 x3 x5) 1 = 1) → ∀ (v2 : Int), ∀ (m2 : mmM), P1 v2 m2 → ¬ v2 = 0 → mmT bX12_players d 0 0 (mQ 0 P) 53 [(2, 65), (0, x1), (0, x2), (0, x3), (0, (or32 x4 (shl32 1 x5))), (0, (x5 + 1)), (9, 0), (9, 0)] [] mS m2)
  (q1 : 8 ≤ x5 → ¬ x2 = (-1) → P x4 mem)
  (q2 : x5 < 8 → x2 = (-1) → ¬ x2 = (-1) → P x4 mem)
  (hd_d1 : d1 + 1 ≤ d := by omega)
  (hd2 : 2 ≤ d := by omega)
  (s1 : R32 x5 := by intros; first | omega | assumption | solve_by_elim)
  (s2 : 8 ≤ x5 → R32 x2 := by intros; first | omega | assumption | solve_by_elim)
  (s3 : x5 < 8 → R32 x2 := by intros; first | omega | assumption | solve_by_elim)
  (s4 : x5 < 8 → ¬ x2 = (-1) → ¬ x5 = x2 → (and32 (shr32 x3 x5) 1 = 1) → ∀ (v2 : Int), ∀ (m2 : mmM), P1 v2 m2 → R32 v2 := by intros; first | omega | assumption | solve_by_elim)
  : mmT bX12_players d 0 0 (mQ 0 P) 53 [(2, 65), (0, x1), (0, x2), (0, x3), (0, x4), (0, x5), (9, 0), (9, 0)] [] mS mem := by
  refine st_iload rfl dX12_players_53 ?_
  refine st_bipush rfl dX12_players_55 ?_
  refine sr_icmp_ge 110 s1 ⟨by decide, by decide⟩ (by decide) dX12_players_57 (fun h1 => ?_) (fun h1 => ?_)
  · have h1 : 8 ≤ x5 := by omega
    refine st_iload_n (i := 2) rfl rfl dX12_players_110 ?_
    refine st_iconst dX12_players_111 ?_
    refine sr_icmp_eq 118 (s2 h1) ⟨by decide, by decide⟩ (by decide) dX12_players_112 (fun h2 => ?_) (fun h2 => ?_)
    · have h2 : x2 = (-1) := by omega
      refine st_iconst dX12_players_118 ?_
      refine st_istore (by decide) (lc' := [(2, 65), (0, x1), (0, x2), (0, x3), (0, x4), (0, 0), (9, 0), (9, 0)]) rfl dX12_players_119 ?_
      exact st_locals [(2, 65), (0, x1), (9, 0), (0, x3), (9, 0), (0, 0), (9, 0), (9, 0)] ⟨Or.inr rfl, Or.inr rfl, Or.inl rfl, Or.inr rfl, Or.inl rfl, Or.inr rfl, Or.inl rfl, Or.inl rfl, trivial⟩ (k1 h1 h2)
    · have h2 : ¬ x2 = (-1) := by omega
      refine st_iload rfl dX12_players_115 ?_
      exact st_ireturn rfl dX12_players_117 (mQ.ret (q1 h1 h2))
  · have h1 : x5 < 8 := by omega
    refine st_iload_n (i := 2) rfl rfl dX12_players_60 ?_
    refine st_iconst dX12_players_61 ?_
    refine sr_icmp_eq 110 (s3 h1) ⟨by decide, by decide⟩ (by decide) dX12_players_62 (fun h3 => ?_) (fun h3 => ?_)
    · have h3 : x2 = (-1) := by omega
      refine st_iload_n (i := 2) rfl rfl dX12_players_110 ?_
      refine st_iconst dX12_players_111 ?_
      refine sr_icmp_eq 118 (s3 h1) ⟨by decide, by decide⟩ (by decide) dX12_players_112 (fun h4 => ?_) (fun h4 => ?_)
      · have h4 : x2 = (-1) := by omega
        refine st_iconst dX12_players_118 ?_
        refine st_istore (by decide) (lc' := [(2, 65), (0, x1), (0, x2), (0, x3), (0, x4), (0, 0), (9, 0), (9, 0)]) rfl dX12_players_119 ?_
        exact st_locals [(2, 65), (0, x1), (9, 0), (0, x3), (9, 0), (0, 0), (9, 0), (9, 0)] ⟨Or.inr rfl, Or.inr rfl, Or.inl rfl, Or.inr rfl, Or.inl rfl, Or.inr rfl, Or.inl rfl, Or.inl rfl, trivial⟩ (k2 h1 h3 h4)
      · have h4 : ¬ x2 = (-1) := by omega
        refine st_iload rfl dX12_players_115 ?_
        exact st_ireturn rfl dX12_players_117 (mQ.ret (q2 h1 h3 h4))
    · have h3 : ¬ x2 = (-1) := by omega
      refine st_iload rfl dX12_players_65 ?_
      refine st_iload rfl dX12_players_67 ?_
      refine st_iload_n (i := 2) rfl rfl dX12_players_69 ?_
      refine sr_icmp_eq 100 s1 (s3 h1) (by decide) dX12_players_70 (fun h5 => ?_) (fun h5 => ?_)
      · have h5 : x5 = x2 := by omega
        refine st_iconst dX12_players_100 ?_
        refine st_ior dX12_players_101 ?_
        refine st_istore (by decide) (lc' := [(2, 65), (0, x1), (0, x2), (0, x3), (0, (or32 x4 0)), (0, x5), (9, 0), (9, 0)]) rfl dX12_players_102 ?_
        refine st_iinc (y := (x5 + 1)) (by decide) (i := 5) rfl rfl (lc' := [(2, 65), (0, x1), (0, x2), (0, x3), (0, (or32 x4 0)), (0, (x5 + 1)), (9, 0), (9, 0)]) rfl dX12_players_104 ?_
        refine st_goto 53 (by decide) dX12_players_107 ?_
        exact st_locals [(2, 65), (0, x1), (0, x2), (0, x3), (0, (or32 x4 0)), (0, (x5 + 1)), (9, 0), (9, 0)] ⟨Or.inr rfl, Or.inr rfl, Or.inr rfl, Or.inr rfl, Or.inr rfl, Or.inr rfl, Or.inl rfl, Or.inl rfl, trivial⟩ (k3 h1 h3 h5)
      · have h5 : ¬ x5 = x2 := by omega
        refine st_iload_n (i := 3) rfl rfl dX12_players_73 ?_
        refine st_iload rfl dX12_players_74 ?_
        refine st_callS (kc2 := 0) (ks2 := 0) (av := [(0, x3), (0, x5)]) mr_X12_271 ok_X12_has (c_X12_has mem x3 x5 ) rfl rfl hd2 (Nat.le_refl 0) (Nat.le_refl 0) (Nat.le_of_ble_eq_true rfl) dX12_players_76 (mQ.elim fun v1 m1 hp => ?_)
        obtain ⟨hpv, hpm⟩ := hp
        subst hpv
        have hpm := hpm.symm
        subst hpm
        refine so_ifeqB 100 (by decide) dX12_players_79 (fun h6 => ?_) (fun h6 => ?_)
        · have h6 : ¬ (and32 (shr32 x3 x5) 1 = 1) := h6
          refine st_iconst dX12_players_100 ?_
          refine st_ior dX12_players_101 ?_
          refine st_istore (by decide) (lc' := [(2, 65), (0, x1), (0, x2), (0, x3), (0, (or32 x4 0)), (0, x5), (9, 0), (9, 0)]) rfl dX12_players_102 ?_
          refine st_iinc (y := (x5 + 1)) (by decide) (i := 5) rfl rfl (lc' := [(2, 65), (0, x1), (0, x2), (0, x3), (0, (or32 x4 0)), (0, (x5 + 1)), (9, 0), (9, 0)]) rfl dX12_players_104 ?_
          refine st_goto 53 (by decide) dX12_players_107 ?_
          exact st_locals [(2, 65), (0, x1), (0, x2), (0, x3), (0, (or32 x4 0)), (0, (x5 + 1)), (9, 0), (9, 0)] ⟨Or.inr rfl, Or.inr rfl, Or.inr rfl, Or.inr rfl, Or.inr rfl, Or.inr rfl, Or.inl rfl, Or.inl rfl, trivial⟩ (k4 h1 h3 h5 h6)
        · have h6 : (and32 (shr32 x3 x5) 1 = 1) := h6
          refine st_aload_n (i := 0) rfl (t := 0) rfl (by decide) dX12_players_82 ?_
          refine st_iload_n (i := 2) rfl rfl dX12_players_83 ?_
          refine st_iload rfl dX12_players_84 ?_
          refine st_iload_n (i := 1) rfl rfl dX12_players_86 ?_
          refine st_callV (kc2 := 0) (ks2 := 0) (av := [(0, x2), (0, x5), (0, x1)]) 65 11 mr_X12_420 ok_X12_canBeOne (c1 h1 h3 h5 h6) rfl sh_65 ⟨_, rfl, rfl, by decide⟩ rfl rfl hd_d1 (Nat.le_refl 0) (Nat.le_refl 0) (Nat.le_of_ble_eq_true rfl) dX12_players_87 (mQ.elim fun v2 m2 p1 => ?_)
          refine sr_if_eq 100 (s4 h1 h3 h5 h6 v2 m2 p1) (by decide) dX12_players_90 (fun h7 => ?_) (fun h7 => ?_)
          · have h7 : v2 = 0 := by omega
            refine st_iconst dX12_players_100 ?_
            refine st_ior dX12_players_101 ?_
            refine st_istore (by decide) (lc' := [(2, 65), (0, x1), (0, x2), (0, x3), (0, (or32 x4 0)), (0, x5), (9, 0), (9, 0)]) rfl dX12_players_102 ?_
            refine st_iinc (y := (x5 + 1)) (by decide) (i := 5) rfl rfl (lc' := [(2, 65), (0, x1), (0, x2), (0, x3), (0, (or32 x4 0)), (0, (x5 + 1)), (9, 0), (9, 0)]) rfl dX12_players_104 ?_
            refine st_goto 53 (by decide) dX12_players_107 ?_
            exact st_locals [(2, 65), (0, x1), (0, x2), (0, x3), (0, (or32 x4 0)), (0, (x5 + 1)), (9, 0), (9, 0)] ⟨Or.inr rfl, Or.inr rfl, Or.inr rfl, Or.inr rfl, Or.inr rfl, Or.inr rfl, Or.inl rfl, Or.inl rfl, trivial⟩ (k5 h1 h3 h5 h6 v2 m2 p1 h7)
          · have h7 : ¬ v2 = 0 := by omega
            refine st_iconst dX12_players_93 ?_
            refine st_iload rfl dX12_players_94 ?_
            refine st_ishl dX12_players_96 ?_
            refine st_goto 101 (by decide) dX12_players_97 ?_
            refine st_ior dX12_players_101 ?_
            refine st_istore (by decide) (lc' := [(2, 65), (0, x1), (0, x2), (0, x3), (0, (or32 x4 (shl32 1 x5))), (0, x5), (9, 0), (9, 0)]) rfl dX12_players_102 ?_
            refine st_iinc (y := (x5 + 1)) (by decide) (i := 5) rfl rfl (lc' := [(2, 65), (0, x1), (0, x2), (0, x3), (0, (or32 x4 (shl32 1 x5))), (0, (x5 + 1)), (9, 0), (9, 0)]) rfl dX12_players_104 ?_
            refine st_goto 53 (by decide) dX12_players_107 ?_
            exact st_locals [(2, 65), (0, x1), (0, x2), (0, x3), (0, (or32 x4 (shl32 1 x5))), (0, (x5 + 1)), (9, 0), (9, 0)] ⟨Or.inr rfl, Or.inr rfl, Or.inr rfl, Or.inr rfl, Or.inr rfl, Or.inr rfl, Or.inl rfl, Or.inl rfl, trivial⟩ (k6 h1 h3 h5 h6 v2 m2 p1 h7)
theorem bk_X12_players_121 {d : Nat} {P : Int → mmM → Prop} {mem : mmM} {x1 x3 x5 : Int}
  (k1 : x5 < 256 → ¬ x5 = 0 → mmT bX12_players d 0 0 (mQ 0 P) 151 [(2, 65), (0, x1), (9, 0), (0, x3), (9, 0), (0, x5), (0, x5), (9, 0)] [] mS (mset mem 97 x5 8))
  (k2 : x5 < 256 → x5 = 0 → mmT bX12_players d 0 0 (mQ 0 P) 151 [(2, 65), (0, x1), (9, 0), (0, x3), (9, 0), (0, x5), (0, x5), (9, 0)] [] mS (mset mem 97 x5 0))
  (q1 : 256 ≤ x5 → P (mem 97 x3) mem)
  (s1 : R32 x5 := by intros; first | omega | assumption | solve_by_elim)
  (s2 : 256 ≤ x5 → 0 ≤ x3 ∧ x3 < 256 := by intros; first | omega | assumption | solve_by_elim)
  (s3 : x5 < 256 → ¬ x5 = 0 → 0 ≤ x5 ∧ x5 < 256 := by intros; first | omega | assumption | solve_by_elim)
  (s4 : x5 < 256 → x5 = 0 → 0 ≤ x5 ∧ x5 < 256 := by intros; first | omega | assumption | solve_by_elim)
  : mmT bX12_players d 0 0 (mQ 0 P) 121 [(2, 65), (0, x1), (9, 0), (0, x3), (9, 0), (0, x5), (9, 0), (9, 0)] [] mS mem := by
  refine st_iload rfl dX12_players_121 ?_
  refine st_sipush rfl dX12_players_123 ?_
  refine sr_icmp_ge 262 s1 ⟨by decide, by decide⟩ (by decide) dX12_players_126 (fun h1 => ?_) (fun h1 => ?_)
  · have h1 : 256 ≤ x5 := by omega
    refine st_aload_n (i := 0) rfl (t := 0) rfl (by decide) dX12_players_262 ?_
    refine so_getA 65 55 fr_X12_108_11 rfl sh_65 fx_65_55 dX12_players_263 ?_
    refine st_iload_n (i := 3) rfl rfl dX12_players_266 ?_
    refine so_iald (v := (mem 97 x3)) 97 rfl sh_97 (by decide) (s2 h1) rfl dX12_players_267 (fun r1 => ?_)
    exact st_ireturn rfl dX12_players_268 (mQ.ret (q1 h1))
  · have h1 : x5 < 256 := by omega
    refine st_aload_n (i := 0) rfl (t := 0) rfl (by decide) dX12_players_129 ?_
    refine so_getA 65 55 fr_X12_108_11 rfl sh_65 fx_65_55 dX12_players_130 ?_
    refine st_iload rfl dX12_players_133 ?_
    refine st_iload rfl dX12_players_135 ?_
    refine sr_if_ne 144 s1 (by decide) dX12_players_137 (fun h2 => ?_) (fun h2 => ?_)
    · have h2 : ¬ x5 = 0 := by omega
      refine st_bipush rfl dX12_players_144 ?_
      refine so_iast 97 fr_97 rfl sh_97 (by decide) (s3 h1 h2) ⟨by decide, by decide⟩ dX12_players_146 ?_
      refine st_iload rfl dX12_players_147 ?_
      refine st_istore (by decide) (lc' := [(2, 65), (0, x1), (9, 0), (0, x3), (9, 0), (0, x5), (0, x5), (9, 0)]) rfl dX12_players_149 ?_
      exact st_locals [(2, 65), (0, x1), (9, 0), (0, x3), (9, 0), (0, x5), (0, x5), (9, 0)] ⟨Or.inr rfl, Or.inr rfl, Or.inl rfl, Or.inr rfl, Or.inl rfl, Or.inr rfl, Or.inr rfl, Or.inl rfl, trivial⟩ (k1 h1 h2)
    · have h2 : x5 = 0 := by omega
      refine st_iconst dX12_players_140 ?_
      refine st_goto 146 (by decide) dX12_players_141 ?_
      refine so_iast 97 fr_97 rfl sh_97 (by decide) (s4 h1 h2) ⟨by decide, by decide⟩ dX12_players_146 ?_
      refine st_iload rfl dX12_players_147 ?_
      refine st_istore (by decide) (lc' := [(2, 65), (0, x1), (9, 0), (0, x3), (9, 0), (0, x5), (0, x5), (9, 0)]) rfl dX12_players_149 ?_
      exact st_locals [(2, 65), (0, x1), (9, 0), (0, x3), (9, 0), (0, x5), (0, x5), (9, 0)] ⟨Or.inr rfl, Or.inr rfl, Or.inl rfl, Or.inr rfl, Or.inl rfl, Or.inr rfl, Or.inr rfl, Or.inl rfl, trivial⟩ (k2 h1 h2)
theorem bk_X12_players_151 {d : Nat} {d1 : Nat} {P1 : Int → mmM → Prop} {P : Int → mmM → Prop} {mem : mmM} {x1 x3 x5 x6 : Int}
  (c1 : 0 < x6 → (and32 x5 (xor32 x3 (-1))) = 0 → ¬ (and32 (and32 x6 x5) (-x5)) = 0 → (1 + (mem 97 (and32 x5 (xor32 x6 (-1))))) < (mem 97 x5) → con 0 bX12_areOne d1 [(2, 65), (0, x6), (0, x1)] mem P1)
  (k1 : x6 ≤ 0 → mmT bX12_players d 0 0 (mQ 0 P) 121 [(2, 65), (0, x1), (9, 0), (0, x3), (9, 0), (0, (x5 + 1)), (9, 0), (9, 0)] [] mS mem)
  (k2 : 0 < x6 → ¬ (and32 x5 (xor32 x3 (-1))) = 0 → mmT bX12_players d 0 0 (mQ 0 P) 151 [(2, 65), (0, x1), (9, 0), (0, x3), (9, 0), (0, x5), (0, (and32 (x6 - 1) x5)), (9, 0)] [] mS mem)
  (k3 : 0 < x6 → (and32 x5 (xor32 x3 (-1))) = 0 → (and32 (and32 x6 x5) (-x5)) = 0 → mmT bX12_players d 0 0 (mQ 0 P) 151 [(2, 65), (0, x1), (9, 0), (0, x3), (9, 0), (0, x5), (0, (and32 (x6 - 1) x5)), (9, 0)] [] mS mem)
  (k4 : 0 < x6 → (and32 x5 (xor32 x3 (-1))) = 0 → ¬ (and32 (and32 x6 x5) (-x5)) = 0 → (mem 97 x5) ≤ (1 + (mem 97 (and32 x5 (xor32 x6 (-1))))) → mmT bX12_players d 0 0 (mQ 0 P) 151 [(2, 65), (0, x1), (9, 0), (0, x3), (9, 0), (0, x5), (0, (and32 (x6 - 1) x5)), (9, 0)] [] mS mem)
  (k5 : 0 < x6 → (and32 x5 (xor32 x3 (-1))) = 0 → ¬ (and32 (and32 x6 x5) (-x5)) = 0 → (1 + (mem 97 (and32 x5 (xor32 x6 (-1))))) < (mem 97 x5) → ∀ (v1 : Int), ∀ (m1 : mmM), P1 v1 m1 → v1 = 0 → mmT bX12_players d 0 0 (mQ 0 P) 151 [(2, 65), (0, x1), (9, 0), (0, x3), (9, 0), (0, x5), (0, (and32 (x6 - 1) x5)), (9, 0)] [] mS m1)
  (k6 : 0 < x6 → (and32 x5 (xor32 x3 (-1))) = 0 → ¬ (and32 (and32 x6 x5) (-x5)) = 0 → (1 + (mem 97 (and32 x5 (xor32 x6 (-1))))) < (mem 97 x5) → ∀ (v1 : Int), ∀ (m1 : mmM), P1 v1 m1 → ¬ v1 = 0 → mmT bX12_players d 0 0 (mQ 0 P) 151 [(2, 65), (0, x1), (9, 0), (0, x3), (9, 0), (0, x5), (0, (and32 (x6 - 1) x5)), (9, 0)] [] mS (mset m1 97 x5 (1 + (m1 97 (and32 x5 (xor32 x6 (-1)))))))
  (hd_d1 : d1 + 1 ≤ d := by omega)
  (s1 : R32 x6 := by intros; first | omega | assumption | solve_by_elim)
  (s2 : 0 < x6 → (and32 x5 (xor32 x3 (-1))) = 0 → ¬ (and32 (and32 x6 x5) (-x5)) = 0 → 0 ≤ (and32 x5 (xor32 x6 (-1))) ∧ (and32 x5 (xor32 x6 (-1))) < 256 := by intros; first | omega | assumption | solve_by_elim)
  (s3 : 0 < x6 → (and32 x5 (xor32 x3 (-1))) = 0 → ¬ (and32 (and32 x6 x5) (-x5)) = 0 → 0 ≤ x5 ∧ x5 < 256 := by intros; first | omega | assumption | solve_by_elim)
  (s4 : 0 < x6 → (and32 x5 (xor32 x3 (-1))) = 0 → ¬ (and32 (and32 x6 x5) (-x5)) = 0 → R32 (1 + (mem 97 (and32 x5 (xor32 x6 (-1))))) := by intros; first | omega | assumption | solve_by_elim)
  (s5 : 0 < x6 → (and32 x5 (xor32 x3 (-1))) = 0 → ¬ (and32 (and32 x6 x5) (-x5)) = 0 → (1 + (mem 97 (and32 x5 (xor32 x6 (-1))))) < (mem 97 x5) → ∀ (v1 : Int), ∀ (m1 : mmM), P1 v1 m1 → R32 v1 := by intros; first | omega | assumption | solve_by_elim)
  (s6 : 0 < x6 → (and32 x5 (xor32 x3 (-1))) = 0 → ¬ (and32 (and32 x6 x5) (-x5)) = 0 → (1 + (mem 97 (and32 x5 (xor32 x6 (-1))))) < (mem 97 x5) → ∀ (v1 : Int), ∀ (m1 : mmM), P1 v1 m1 → ¬ v1 = 0 → R32 (1 + (m1 97 (and32 x5 (xor32 x6 (-1))))) := by intros; first | omega | assumption | solve_by_elim)
  : mmT bX12_players d 0 0 (mQ 0 P) 151 [(2, 65), (0, x1), (9, 0), (0, x3), (9, 0), (0, x5), (0, x6), (9, 0)] [] mS mem := by
  refine st_iload rfl dX12_players_151 ?_
  refine sr_if_le 256 s1 (by decide) dX12_players_153 (fun h1 => ?_) (fun h1 => ?_)
  · have h1 : x6 ≤ 0 := by omega
    refine st_iinc (y := (x5 + 1)) (by decide) (i := 5) rfl rfl (lc' := [(2, 65), (0, x1), (9, 0), (0, x3), (9, 0), (0, (x5 + 1)), (0, x6), (9, 0)]) rfl dX12_players_256 ?_
    refine st_goto 121 (by decide) dX12_players_259 ?_
    exact st_locals [(2, 65), (0, x1), (9, 0), (0, x3), (9, 0), (0, (x5 + 1)), (9, 0), (9, 0)] ⟨Or.inr rfl, Or.inr rfl, Or.inl rfl, Or.inr rfl, Or.inl rfl, Or.inr rfl, Or.inl rfl, Or.inl rfl, trivial⟩ (k1 h1)
  · have h1 : 0 < x6 := by omega
    refine st_iload rfl dX12_players_156 ?_
    refine st_iload_n (i := 3) rfl rfl dX12_players_158 ?_
    refine st_iconst dX12_players_159 ?_
    refine st_ixor dX12_players_160 ?_
    refine st_iand dX12_players_161 ?_
    refine sr_if_ne 205 (and32_rng x5 (xor32 x3 (-1))) (by decide) dX12_players_162 (fun h2 => ?_) (fun h2 => ?_)
    · have h2 : ¬ (and32 x5 (xor32 x3 (-1))) = 0 := by omega
      refine st_iconst dX12_players_205 ?_
      refine st_istore (by decide) (lc' := [(2, 65), (0, x1), (9, 0), (0, x3), (9, 0), (0, x5), (0, x6), (0, 0)]) rfl dX12_players_206 ?_
      refine st_iload rfl dX12_players_208 ?_
      refine sr_if_eq 244 ⟨by decide, by decide⟩ (by decide) dX12_players_210 (fun h => ?_) (fun h => ?_)
      rotate_left
      · exact absurd h (by decide)
      refine st_iload rfl dX12_players_244 ?_
      refine st_iconst dX12_players_246 ?_
      refine st_isub dX12_players_247 ?_
      refine st_iload rfl dX12_players_248 ?_
      refine st_iand dX12_players_250 ?_
      refine st_istore (by decide) (lc' := [(2, 65), (0, x1), (9, 0), (0, x3), (9, 0), (0, x5), (0, (and32 (x6 - 1) x5)), (0, 0)]) rfl dX12_players_251 ?_
      refine st_goto 151 (by decide) dX12_players_253 ?_
      exact st_locals [(2, 65), (0, x1), (9, 0), (0, x3), (9, 0), (0, x5), (0, (and32 (x6 - 1) x5)), (9, 0)] ⟨Or.inr rfl, Or.inr rfl, Or.inl rfl, Or.inr rfl, Or.inl rfl, Or.inr rfl, Or.inr rfl, Or.inl rfl, trivial⟩ (k2 h1 h2)
    · have h2 : (and32 x5 (xor32 x3 (-1))) = 0 := by omega
      refine st_iload rfl dX12_players_165 ?_
      refine st_iload rfl dX12_players_167 ?_
      refine st_iand dX12_players_169 ?_
      refine st_iload rfl dX12_players_170 ?_
      refine st_ineg dX12_players_172 ?_
      refine st_iand dX12_players_173 ?_
      refine sr_if_eq 205 (and32_rng (and32 x6 x5) (-x5)) (by decide) dX12_players_174 (fun h3 => ?_) (fun h3 => ?_)
      · have h3 : (and32 (and32 x6 x5) (-x5)) = 0 := by omega
        refine st_iconst dX12_players_205 ?_
        refine st_istore (by decide) (lc' := [(2, 65), (0, x1), (9, 0), (0, x3), (9, 0), (0, x5), (0, x6), (0, 0)]) rfl dX12_players_206 ?_
        refine st_iload rfl dX12_players_208 ?_
        refine sr_if_eq 244 ⟨by decide, by decide⟩ (by decide) dX12_players_210 (fun h => ?_) (fun h => ?_)
        rotate_left
        · exact absurd h (by decide)
        refine st_iload rfl dX12_players_244 ?_
        refine st_iconst dX12_players_246 ?_
        refine st_isub dX12_players_247 ?_
        refine st_iload rfl dX12_players_248 ?_
        refine st_iand dX12_players_250 ?_
        refine st_istore (by decide) (lc' := [(2, 65), (0, x1), (9, 0), (0, x3), (9, 0), (0, x5), (0, (and32 (x6 - 1) x5)), (0, 0)]) rfl dX12_players_251 ?_
        refine st_goto 151 (by decide) dX12_players_253 ?_
        exact st_locals [(2, 65), (0, x1), (9, 0), (0, x3), (9, 0), (0, x5), (0, (and32 (x6 - 1) x5)), (9, 0)] ⟨Or.inr rfl, Or.inr rfl, Or.inl rfl, Or.inr rfl, Or.inl rfl, Or.inr rfl, Or.inr rfl, Or.inl rfl, trivial⟩ (k3 h1 h2 h3)
      · have h3 : ¬ (and32 (and32 x6 x5) (-x5)) = 0 := by omega
        refine st_iconst dX12_players_177 ?_
        refine st_aload_n (i := 0) rfl (t := 0) rfl (by decide) dX12_players_178 ?_
        refine so_getA 65 55 fr_X12_108_11 rfl sh_65 fx_65_55 dX12_players_179 ?_
        refine st_iload rfl dX12_players_182 ?_
        refine st_iload rfl dX12_players_184 ?_
        refine st_iconst dX12_players_186 ?_
        refine st_ixor dX12_players_187 ?_
        refine st_iand dX12_players_188 ?_
        refine so_iald (v := (mem 97 (and32 x5 (xor32 x6 (-1))))) 97 rfl sh_97 (by decide) (s2 h1 h2 h3) rfl dX12_players_189 (fun r1 => ?_)
        refine st_iadd dX12_players_190 ?_
        refine st_aload_n (i := 0) rfl (t := 0) rfl (by decide) dX12_players_191 ?_
        refine so_getA 65 55 fr_X12_108_11 rfl sh_65 fx_65_55 dX12_players_192 ?_
        refine st_iload rfl dX12_players_195 ?_
        refine so_iald (v := (mem 97 x5)) 97 rfl sh_97 (by decide) (s3 h1 h2 h3) rfl dX12_players_197 (fun r2 => ?_)
        refine sr_icmp_ge 205 (s4 h1 h2 h3) r2 (by decide) dX12_players_198 (fun h4 => ?_) (fun h4 => ?_)
        · have h4 : (mem 97 x5) ≤ (1 + (mem 97 (and32 x5 (xor32 x6 (-1))))) := by omega
          refine st_iconst dX12_players_205 ?_
          refine st_istore (by decide) (lc' := [(2, 65), (0, x1), (9, 0), (0, x3), (9, 0), (0, x5), (0, x6), (0, 0)]) rfl dX12_players_206 ?_
          refine st_iload rfl dX12_players_208 ?_
          refine sr_if_eq 244 ⟨by decide, by decide⟩ (by decide) dX12_players_210 (fun h => ?_) (fun h => ?_)
          rotate_left
          · exact absurd h (by decide)
          refine st_iload rfl dX12_players_244 ?_
          refine st_iconst dX12_players_246 ?_
          refine st_isub dX12_players_247 ?_
          refine st_iload rfl dX12_players_248 ?_
          refine st_iand dX12_players_250 ?_
          refine st_istore (by decide) (lc' := [(2, 65), (0, x1), (9, 0), (0, x3), (9, 0), (0, x5), (0, (and32 (x6 - 1) x5)), (0, 0)]) rfl dX12_players_251 ?_
          refine st_goto 151 (by decide) dX12_players_253 ?_
          exact st_locals [(2, 65), (0, x1), (9, 0), (0, x3), (9, 0), (0, x5), (0, (and32 (x6 - 1) x5)), (9, 0)] ⟨Or.inr rfl, Or.inr rfl, Or.inl rfl, Or.inr rfl, Or.inl rfl, Or.inr rfl, Or.inr rfl, Or.inl rfl, trivial⟩ (k4 h1 h2 h3 h4)
        · have h4 : (1 + (mem 97 (and32 x5 (xor32 x6 (-1))))) < (mem 97 x5) := by omega
          refine st_iconst dX12_players_201 ?_
          refine st_goto 206 (by decide) dX12_players_202 ?_
          refine st_istore (by decide) (lc' := [(2, 65), (0, x1), (9, 0), (0, x3), (9, 0), (0, x5), (0, x6), (0, 1)]) rfl dX12_players_206 ?_
          refine st_iload rfl dX12_players_208 ?_
          refine sr_if_eq 244 ⟨by decide, by decide⟩ (by decide) dX12_players_210 (fun h => ?_) (fun h => ?_)
          · exact absurd h (by decide)
          refine st_aload_n (i := 0) rfl (t := 0) rfl (by decide) dX12_players_213 ?_
          refine st_iload rfl dX12_players_214 ?_
          refine st_iload_n (i := 1) rfl rfl dX12_players_216 ?_
          refine st_callV (kc2 := 0) (ks2 := 0) (av := [(0, x6), (0, x1)]) 65 11 mr_X12_423 ok_X12_areOne (c1 h1 h2 h3 h4) rfl sh_65 ⟨_, rfl, rfl, by decide⟩ rfl rfl hd_d1 (Nat.le_refl 0) (Nat.le_refl 0) (Nat.le_of_ble_eq_true rfl) dX12_players_217 (mQ.elim fun v1 m1 p1 => ?_)
          refine sr_if_eq 244 (s5 h1 h2 h3 h4 v1 m1 p1) (by decide) dX12_players_220 (fun h5 => ?_) (fun h5 => ?_)
          · have h5 : v1 = 0 := by omega
            refine st_iload rfl dX12_players_244 ?_
            refine st_iconst dX12_players_246 ?_
            refine st_isub dX12_players_247 ?_
            refine st_iload rfl dX12_players_248 ?_
            refine st_iand dX12_players_250 ?_
            refine st_istore (by decide) (lc' := [(2, 65), (0, x1), (9, 0), (0, x3), (9, 0), (0, x5), (0, (and32 (x6 - 1) x5)), (0, 1)]) rfl dX12_players_251 ?_
            refine st_goto 151 (by decide) dX12_players_253 ?_
            exact st_locals [(2, 65), (0, x1), (9, 0), (0, x3), (9, 0), (0, x5), (0, (and32 (x6 - 1) x5)), (9, 0)] ⟨Or.inr rfl, Or.inr rfl, Or.inl rfl, Or.inr rfl, Or.inl rfl, Or.inr rfl, Or.inr rfl, Or.inl rfl, trivial⟩ (k5 h1 h2 h3 h4 v1 m1 p1 h5)
          · have h5 : ¬ v1 = 0 := by omega
            refine st_aload_n (i := 0) rfl (t := 0) rfl (by decide) dX12_players_223 ?_
            refine so_getA 65 55 fr_X12_108_11 rfl sh_65 fx_65_55 dX12_players_224 ?_
            refine st_iload rfl dX12_players_227 ?_
            refine st_iconst dX12_players_229 ?_
            refine st_aload_n (i := 0) rfl (t := 0) rfl (by decide) dX12_players_230 ?_
            refine so_getA 65 55 fr_X12_108_11 rfl sh_65 fx_65_55 dX12_players_231 ?_
            refine st_iload rfl dX12_players_234 ?_
            refine st_iload rfl dX12_players_236 ?_
            refine st_iconst dX12_players_238 ?_
            refine st_ixor dX12_players_239 ?_
            refine st_iand dX12_players_240 ?_
            refine so_iald (v := (m1 97 (and32 x5 (xor32 x6 (-1))))) 97 rfl sh_97 (by decide) (s2 h1 h2 h3) rfl dX12_players_241 (fun r3 => ?_)
            refine st_iadd dX12_players_242 ?_
            refine so_iast 97 fr_97 rfl sh_97 (by decide) (s3 h1 h2 h3) (s6 h1 h2 h3 h4 v1 m1 p1 h5) dX12_players_243 ?_
            refine st_iload rfl dX12_players_244 ?_
            refine st_iconst dX12_players_246 ?_
            refine st_isub dX12_players_247 ?_
            refine st_iload rfl dX12_players_248 ?_
            refine st_iand dX12_players_250 ?_
            refine st_istore (by decide) (lc' := [(2, 65), (0, x1), (9, 0), (0, x3), (9, 0), (0, x5), (0, (and32 (x6 - 1) x5)), (0, 1)]) rfl dX12_players_251 ?_
            refine st_goto 151 (by decide) dX12_players_253 ?_
            exact st_locals [(2, 65), (0, x1), (9, 0), (0, x3), (9, 0), (0, x5), (0, (and32 (x6 - 1) x5)), (9, 0)] ⟨Or.inr rfl, Or.inr rfl, Or.inl rfl, Or.inr rfl, Or.inl rfl, Or.inr rfl, Or.inr rfl, Or.inl rfl, trivial⟩ (k6 h1 h2 h3 h4 v1 m1 p1 h5)
theorem c_X12_canBeOne (mem : mmM) (x1 x2 x3 : Int) (hp : playM mem) (h1 : R32 x1) (h2 : R32 x2) (h3 : R32 x3) : con 0 bX12_canBeOne 1 [(2, 65), (0, x1), (0, x2), (0, x3)] mem (fun v m => v = (if pB (nearP (mem 65 27) (mem 79) x3 x1 x2) = true then 0 else 1) ∧ m = mem) := by
  have hn := hp.1
  refine cn_X12_canBeOne (bk_X12_canBeOne_0 ?_)
  refine loop_up (n := mem 65 27) (fun s => (∀ s' o, 0 ≤ s' → s' < s → (0 ≤ o ∧ o < mem 65 27) → mem 79 s' = x1 → mem 79 o = x2 → ¬ (-x3 < s' - o ∧ s' - o < x3)) → mmT bX12_canBeOne 1 0 0 (mQ 0 (fun v m => v = (if pB (nearP (mem 65 27) (mem 79) x3 x1 x2) = true then 0 else 1) ∧ m = mem)) 3 [(2, 65), (0, x1), (0, x2), (0, x3), (0, s), (9, 0)] [] mS mem) (fun s s0 s1 ih no => ?_) 0 (by omega) hn.1 (fun s' o h0 h1 => by omega)
  refine bk_X12_canBeOne_3 (fun g => ?_) (fun g => ⟨?_, rfl⟩)
  · refine loop_up (n := mem 65 27) (fun o => (∀ o', 0 ≤ o' → o' < o → mem 79 s = x1 → mem 79 o' = x2 → ¬ (-x3 < s - o' ∧ s - o' < x3)) → mmT bX12_canBeOne 1 0 0 (mQ 0 (fun v m => v = (if pB (nearP (mem 65 27) (mem 79) x3 x1 x2) = true then 0 else 1) ∧ m = mem)) 15 [(2, 65), (0, x1), (0, x2), (0, x3), (0, s), (0, o)] [] mS mem) (fun o o0 o1 iho no2 => ?_) 0 (by omega) hn.1 (fun o' h0 h1 => by omega)
    refine bk_X12_canBeOne_15 (fun g2 => ih g (fun s' o' a0 a1 a2 a3 a4 => ?_)) (fun g2 g3 => iho g2 (fun o' a0 a1 a2 a3 => absurd a2 g3)) (fun g2 g3 g4 => iho g2 (fun o' a0 a1 a2 a3 => ?_)) (fun g2 g3 g4 g5 => iho g2 (fun o' a0 a1 a2 a3 => ?_)) (fun g2 g3 g4 g5 => ⟨?_, rfl⟩) (s7 := fun _ _ _ => by split <;> omega)
    · by_cases e : s' = s
      · rw [e] at a3 ⊢
        exact no2 o' a2.1 (by omega) a3 a4
      · exact no s' o' a0 (by omega) a2 a3 a4
    · by_cases e : o' = o
      · rw [e] at a3
        exact absurd a3 g4
      · exact no2 o' a0 (by omega) a2 a3
    · by_cases e : o' = o
      · rw [e]
        split at g5 <;> omega
      · exact no2 o' a0 (by omega) a2 a3
    · have y : nearP (mem 65 27) (mem 79) x3 x1 x2 := ⟨s, o, ⟨s0, g⟩, ⟨o0, g2⟩, g3, g4, by split at g5 <;> omega, by split at g5 <;> omega⟩
      rw [if_pos (pB_iff.mpr y)]
  · have y : ¬ nearP (mem 65 27) (mem 79) x3 x1 x2 := by
      rintro ⟨s', o, a1, a2, a3, a4, a5, a6⟩
      exact no s' o a1.1 (by omega) a2 a3 a4 ⟨a5, a6⟩
    rw [pB_no y, if_neg (by decide)]
theorem c_X12_areOne (mem : mmM) (x1 x2 : Int) (hp : playM mem) (h1 : 0 ≤ x1 ∧ x1 < 256) (h2 : R32 x2) : con 0 bX12_areOne 2 [(2, 65), (0, x1), (0, x2)] mem (fun v m => v = (if shB (mem 65 27) (mem 79) x2 x1 = true then 1 else 0) ∧ m = mem) := by
  have bt : ∀ k, 0 ≤ k → k < 32 → ((and32 (shr32 x1 k) 1 = 1) ↔ tb x1 k = true) := fun k k0 k1 => bit_tb h1.1 (by omega) k0 k1
  refine cn_X12_areOne (bk_X12_areOne_0 ?_)
  refine loop_up (n := 8) (fun a => (∀ a' b, 0 ≤ b → b < a' → a' < a → tb x1 a' = true → tb x1 b = true → ¬ nearP (mem 65 27) (mem 79) x2 a' b) → mmT bX12_areOne 2 0 0 (mQ 0 (fun v m => v = (if shB (mem 65 27) (mem 79) x2 x1 = true then 1 else 0) ∧ m = mem)) 2 [(2, 65), (0, x1), (0, x2), (0, a), (9, 0)] [] mS mem) (fun a a0 a1 ih no => ?_) 0 (by omega) (by omega) (fun a' b h0 h1 => by omega)
  refine bk_X12_areOne_2 (fun g => ?_) (fun g => ⟨?_, rfl⟩)
  · refine loop_up (n := a) (fun b => (∀ b', 0 ≤ b' → b' < b → tb x1 a = true → tb x1 b' = true → ¬ nearP (mem 65 27) (mem 79) x2 a b') → mmT bX12_areOne 2 0 0 (mQ 0 (fun v m => v = (if shB (mem 65 27) (mem 79) x2 x1 = true then 1 else 0) ∧ m = mem)) 11 [(2, 65), (0, x1), (0, x2), (0, a), (0, b)] [] mS mem) (fun b b0 b1 ihb no2 => ?_) 0 (by omega) a0 (fun b' h0 h1 => by omega)
    refine bk_X12_areOne_11 (d1 := 1) (P1 := fun v m => v = (if pB (nearP (mem 65 27) (mem 79) x2 a b) = true then 0 else 1) ∧ m = mem) (fun g2 g3 g4 => c_X12_canBeOne mem a b x2 hp (by omega) (by omega) h2) (fun g2 => ih g (fun a' b' c0 c1 c2 c3 c4 => ?_)) (fun g2 g3 => ihb g2 (fun b' c0 c1 c2 c3 => absurd ((bt a a0 (by omega)).mpr c2) g3)) (fun g2 g3 g4 => ihb g2 (fun b' c0 c1 c2 c3 => ?_)) (fun g2 g3 g4 v m w g5 => ?_) (fun g2 g3 g4 v m w g5 => ⟨?_, w.2⟩) (s3 := fun _ _ _ v m w => by rw [w.1]; split <;> omega)
    · by_cases e : a' = a
      · rw [e] at c1 c3 ⊢
        exact no2 b' c0 (by omega) c3 c4
      · exact no a' b' c0 c1 (by omega) c3 c4
    · by_cases e : b' = b
      · rw [e] at c3
        exact absurd ((bt b b0 (by omega)).mpr c3) g4
      · exact no2 b' c0 (by omega) c2 c3
    · rw [w.2]
      refine ihb g2 (fun b' c0 c1 c2 c3 => ?_)
      by_cases e : b' = b
      · rw [e]
        intro y
        rw [w.1, if_pos (pB_iff.mpr y)] at g5
        exact g5 rfl
      · exact no2 b' c0 (by omega) c2 c3
    · have y : nearP (mem 65 27) (mem 79) x2 a b := Classical.byContradiction fun y => by
        rw [w.1, pB_no y, if_neg (by decide)] at g5
        cases g5
      have z : ¬ shareP (mem 65 27) (mem 79) x2 x1 := fun z => z a b ⟨a0, g⟩ ⟨b0, by omega⟩ (by omega) ((bt a a0 (by omega)).mp g3) ((bt b b0 (by omega)).mp g4) y
      unfold shB
      rw [pB_no z, if_neg (by decide)]
  · have y : shareP (mem 65 27) (mem 79) x2 x1 := by
      intro a' b ha hb hab ta tb' hnear
      rcases Int.lt_or_le b a' with z | z
      · exact no a' b hb.1 z (by omega) ta tb' hnear
      · exact no b a' ha.1 (by omega) (by omega) tb' ta (nearP_symm hnear)
    unfold shB
    rw [if_pos (pB_iff.mpr y)]
theorem ndOK_less {sh : Int → Bool} {all K K' : Int} {f : Int → Int} (h : ndOK sh all K f) (hK : K' ≤ K) : ndOK sh all K' f := ⟨h.1, fun s h1 h2 h3 => h.2 s h1 (by omega) h3⟩
theorem c_X12_players (mem : mmM) (x1 x2 : Int) (h1 : R32 x1) (h2 : R32 x2) (hp : playM mem) : con 0 bX12_players 4 [(2, 65), (0, x1), (0, x2)] mem (fun v m => playersP (mem 65 27) (mem 79) x1 x2 v ∧ ∀ a, a ≠ 97 → m a = mem a) := by
  have hn := hp.1
  have at' := actF_tb (n := mem 65 27) (a := mem 79) hn.1 (fun i i0 i1 => (hp.2 i i0 (by omega)).1)
  have ca := c_X12_actors mem hp
  have bt : ∀ k : Int, 0 ≤ k → k < 32 → _ := fun k k0 k1 => bit_tb (x := actF (mem 65 27) (mem 79)) (k := k) at'.1.1 (by omega) k0 k1
  have e8 := e256
  -- the sets one by one
  have dp : 0 < mem 65 27 → (1 ≤ x1 ∧ x1 ≤ 24) → x2 = -1 → mmT bX12_players 4 0 0 (mQ 0 (fun v m => playersP (mem 65 27) (mem 79) x1 x2 v ∧ ∀ a, a ≠ 97 → m a = mem a)) 121 [(2, 65), (0, x1), (9, 0), (0, actF (mem 65 27) (mem 79)), (9, 0), (0, 0), (9, 0), (9, 0)] [] mS mem := by
    intro hn0 hx1 hx2
    generalize hall : actF (mem 65 27) (mem 79) = all at *
    generalize hsh : shB (mem 65 27) (mem 79) x1 = sh
    have fin : ∀ m : mmM, (∀ a, a ≠ 97 → m a = mem a) → ndOK sh all 256 (m 97) → playersP (mem 65 27) (mem 79) x1 x2 (m 97 all) := fun m f h => Or.inr (Or.inl ⟨⟨hn0, hx1⟩, hx2, m 97, by rw [hall, hsh]; exact ndOK_less h (by omega), by rw [hall]⟩)
    have sets : ∀ (t : Nat) (s : Int) (m : mmM), s + t = 256 → 0 ≤ s → (∀ a, a ≠ 97 → m a = mem a) → (0 < s → ndOK sh all s (m 97)) → mmT bX12_players 4 0 0 (mQ 0 (fun v m => playersP (mem 65 27) (mem 79) x1 x2 v ∧ ∀ a, a ≠ 97 → m a = mem a)) 121 [(2, 65), (0, x1), (9, 0), (0, all), (9, 0), (0, s), (9, 0), (9, 0)] [] mS m := by
      intro t
      induction t with
      | zero =>
        intro s m hst h0 f h
        refine bk_X12_players_121 (fun g => by omega) (fun g => by omega) (fun g => ⟨fin m f (by have := h (by omega); rw [show s = 256 by omega] at this; exact this), f⟩) (s2 := fun _ => by omega)
      | succ t ih =>
        intro s m hst h0 f h
        have hs256 : 0 ≤ s ∧ s < 256 := by omega
        refine bk_X12_players_121 (fun g g2 => ?_) (fun g g2 => ?_) (fun g => by omega) (s2 := fun _ => by omega)
        · have hnd := h (by omega)
          have bd := ndOK_bnd (by omega) hnd
          have pm : ∀ m' : mmM, (∀ a, a ≠ 97 → m' a = mem a) → playM m' := fun m' f' => playM_congr hp (by rw [f' 65 (by decide)]) (f' 79 (by decide)) (f' 80 (by decide)) (f' 81 (by decide))
          by_cases hsub : subB s all
          · have z0 := (andnot_0 hs256 at'.1).mpr hsub
            have inn : ∀ (k : Nat) (g acc : Int) (m' : mmM), 0 ≤ g → g ≤ (k : Int) → g ≤ s → subB g s → (∀ a, a ≠ 97 → m' a = mem a) → (∀ r, r ≠ s → m' 97 r = m 97 r) → m' 97 s = acc → (0 ≤ acc ∧ acc ≤ 8) → ndF sh (m 97) s k g acc = ndF sh (m 97) s 256 s 8 → mmT bX12_players 4 0 0 (mQ 0 (fun v m => playersP (mem 65 27) (mem 79) x1 x2 v ∧ ∀ a, a ≠ 97 → m a = mem a)) 151 [(2, 65), (0, x1), (9, 0), (0, all), (9, 0), (0, s), (0, g), (9, 0)] [] mS m' := by
              intro k
              induction k with
              | zero =>
                intro g acc m' h0' h1' h2' h3' f' r' ea hacc he
                refine bk_X12_players_151 (d1 := 2) (P1 := fun _ _ => True) (fun z => by omega) (fun _ => ?_) (fun z => by omega) (fun z => by omega) (fun z => by omega) (fun z => by omega) (fun z => by omega) (s2 := fun z => by omega) (s3 := fun z => by omega) (s4 := fun z => by omega) (s5 := fun z => by omega) (s6 := fun z => by omega)
                exact ih (s + 1) m' (by omega) (by omega) f' (fun _ => ndOK_next (by omega) hnd r' (fun _ => by rw [ea]; exact he))
              | succ k ihk =>
                intro g acc m' h0' h1' h2' h3' f' r' ea hacc he
                have go : 0 < g → ∀ (m'' : mmM) (acc' : Int), (∀ a, a ≠ 97 → m'' a = mem a) → (∀ r, r ≠ s → m'' 97 r = m 97 r) → m'' 97 s = acc' → acc' = (if ¬ and32 g (and32 s (-s)) = 0 ∧ sh g = true then min acc (m 97 (xor32 s g) + 1) else acc) → mmT bX12_players 4 0 0 (mQ 0 (fun v m => playersP (mem 65 27) (mem 79) x1 x2 v ∧ ∀ a, a ≠ 97 → m a = mem a)) 151 [(2, 65), (0, x1), (9, 0), (0, all), (9, 0), (0, s), (0, and32 (g - 1) s), (9, 0)] [] mS m'' := by
                  intro hg m'' acc' f'' r'' ea' ev
                  have n := next_sub hs256 ⟨hg, h2'⟩
                  have x := subB_xor hs256 hg h3'
                  have b := bd (xor32 s g).toNat (xor32 s g) (Nat.le_refl _) x.1.1 x.1.2 (subB_trans x.2.2.2 hsub)
                  refine ihk _ acc' m'' n.1.1 (by omega) (by omega) n.2 f'' r'' ea' (by rw [ev]; split <;> omega) ?_
                  rw [← he, ev, ndF_succ, if_neg (by omega : ¬ g ≤ 0)]
                have x : 0 < g → _ := fun hg => subB_xor hs256 hg h3'
                have gx : 0 < g → m' 97 (and32 s (xor32 g (-1))) = m 97 (xor32 s g) := fun hg => by rw [andnot_sub hs256 h0' h3']; exact r' _ (by have := (x hg).1.2; omega)
                have bx : 0 < g → _ := fun hg => bd (xor32 s g).toNat (xor32 s g) (Nat.le_refl _) (x hg).1.1 (x hg).1.2 (subB_trans (x hg).2.2.2 hsub)
                have cs : 0 < g → con 0 bX12_areOne 2 [(2, 65), (0, g), (0, x1)] m' (fun v m2 => v = (if sh g = true then 1 else 0) ∧ m2 = m') := by
                  intro hg
                  have c := c_X12_areOne m' g x1 (pm m' f') (by omega) h1
                  rw [f' 65 (by decide), f' 79 (by decide), hsh] at c
                  exact c
                refine bk_X12_players_151 (d1 := 2) (P1 := fun v m2 => v = (if sh g = true then 1 else 0) ∧ m2 = m') (fun z _ _ _ => cs z) (fun z => ?_) (fun z z2 => absurd z0 z2) (fun z z2 z3 => go z m' acc f' r' ea (by rw [and32_assoc] at z3; rw [if_neg (fun y => y.1 z3)])) (fun z z2 z3 z4 => go z m' acc f' r' ea ?_) (fun z z2 z3 z4 v m2 w z5 => ?_) (fun z z2 z3 z4 v m2 w z5 => ?_) (s2 := fun z _ _ => by rw [andnot_sub hs256 h0' h3']; have := (x z).1; omega) (s3 := fun _ _ _ => by omega) (s4 := fun z _ _ => by rw [gx z]; have := bx z; omega) (s5 := fun z _ _ _ v m2 w => by rw [w.1]; split <;> omega) (s6 := fun z _ _ _ v m2 w _ => by rw [w.2, gx z]; have := bx z; omega)
                · have e : ndF sh (m 97) s (k + 1) g acc = acc := by rw [ndF_succ, if_pos z]
                  exact ih (s + 1) m' (by omega) (by omega) f' (fun _ => ndOK_next (by omega) hnd r' (fun _ => by rw [ea, ← he, e]))
                · rw [gx z, ea] at z4
                  split <;> omega
                · rw [w.2]
                  exact go z m' acc f' r' ea (by rw [if_neg (fun y => by have := w.1; rw [if_pos y.2] at this; omega)])
                · rw [gx z, ea] at z4
                  rw [w.2, gx z]
                  refine go z _ _ (fun a ha' => by rw [mset_ne ha']; exact f' a ha') (fun r hr => by rw [mset_at, if_neg hr]; exact r' r hr) (mset_same _ _ _ _) ?_
                  rw [and32_assoc] at z3
                  rw [if_pos ⟨z3, Classical.byContradiction fun y => z5 (by rw [w.1, if_neg y])⟩]
                  omega
            refine inn 256 s 8 _ hs256.1 (by omega) (Int.le_refl _) (subB_refl s) (fun a ha' => by rw [mset_ne ha']; exact f a ha') (fun r hr => by rw [mset_at, if_neg hr]) (mset_same _ _ _ _) (by omega) rfl
          · have z0 : ¬ and32 s (xor32 all (-1)) = 0 := fun z => hsub ((andnot_0 hs256 at'.1).mp z)
            have inn : ∀ (k : Nat) (g : Int), 0 ≤ g → g ≤ (k : Int) → g ≤ s → mmT bX12_players 4 0 0 (mQ 0 (fun v m => playersP (mem 65 27) (mem 79) x1 x2 v ∧ ∀ a, a ≠ 97 → m a = mem a)) 151 [(2, 65), (0, x1), (9, 0), (0, all), (9, 0), (0, s), (0, g), (9, 0)] [] mS (mset m 97 s 8) := by
              intro k
              induction k with
              | zero =>
                intro g h0' h1' h2'
                refine bk_X12_players_151 (d1 := 2) (P1 := fun _ _ => True) (fun z => by omega) (fun _ => ?_) (fun z => by omega) (fun z => by omega) (fun z => by omega) (fun z => by omega) (fun z => by omega) (s2 := fun z => by omega) (s3 := fun z => by omega) (s4 := fun z => by omega) (s5 := fun z => by omega) (s6 := fun z => by omega)
                exact ih (s + 1) _ (by omega) (by omega) (fun a ha' => by rw [mset_ne ha']; exact f a ha') (fun _ => ndOK_next (by omega) hnd (fun r hr => by rw [mset_at, if_neg hr]) (fun z => absurd z hsub))
              | succ k ihk =>
                intro g h0' h1' h2'
                refine bk_X12_players_151 (d1 := 2) (P1 := fun _ _ => True) (fun z z2 => absurd z2 z0) (fun z => ?_) (fun z _ => ?_) (fun z z2 => absurd z2 z0) (fun z z2 => absurd z2 z0) (fun z z2 => absurd z2 z0) (fun z z2 => absurd z2 z0) (s2 := fun z z2 => absurd z2 z0) (s3 := fun z z2 => absurd z2 z0) (s4 := fun z z2 => absurd z2 z0) (s5 := fun z z2 => absurd z2 z0) (s6 := fun z z2 => absurd z2 z0)
                · exact ih (s + 1) _ (by omega) (by omega) (fun a ha' => by rw [mset_ne ha']; exact f a ha') (fun _ => ndOK_next (by omega) hnd (fun r hr => by rw [mset_at, if_neg hr]) (fun z => absurd z hsub))
                · have n := next_sub hs256 ⟨z, h2'⟩
                  exact ihk _ n.1.1 (by omega) (by omega)
            exact inn 256 s hs256.1 (by omega) (Int.le_refl _)
        · subst g2
          refine bk_X12_players_151 (d1 := 2) (P1 := fun _ _ => True) (fun z => by omega) (fun _ => ?_) (fun z => by omega) (fun z => by omega) (fun z => by omega) (fun z => by omega) (fun z => by omega) (s2 := fun z => by omega) (s3 := fun z => by omega) (s4 := fun z => by omega) (s5 := fun z => by omega) (s6 := fun z => by omega)
          exact ih (0 + 1) _ (by omega) (by omega) (fun a ha' => by rw [mset_ne ha']; exact f a ha') (fun _ => ⟨mset_same _ _ _ _, fun s h1 h2 => by omega⟩)
    exact sets 256 0 mem rfl (by omega) (fun _ _ => rfl) (fun z => by omega)
  -- with whom
  have whom : 0 < mem 65 27 → (1 ≤ x1 ∧ x1 ≤ 24) → (0 ≤ x2 ∧ x2 < 8) → tb (actF (mem 65 27) (mem 79)) x2 = true → mmT bX12_players 4 0 0 (mQ 0 (fun v m => playersP (mem 65 27) (mem 79) x1 x2 v ∧ ∀ a, a ≠ 97 → m a = mem a)) 53 [(2, 65), (0, x1), (0, x2), (0, actF (mem 65 27) (mem 79)), (0, 0), (0, 0), (9, 0), (9, 0)] [] mS mem := by
    intro hn0 hx1 hx2 ht
    refine loop_up (n := 8) (fun i => ∀ v : Int, (0 ≤ v ∧ v < 256) → (∀ b, 0 ≤ b → (tb v b = true ↔ (b < i ∧ tb (actF (mem 65 27) (mem 79)) b = true ∧ ¬ x2 = b ∧ ¬ nearP (mem 65 27) (mem 79) x1 x2 b))) → mmT bX12_players 4 0 0 (mQ 0 (fun v m => playersP (mem 65 27) (mem 79) x1 x2 v ∧ ∀ a, a ≠ 97 → m a = mem a)) 53 [(2, 65), (0, x1), (0, x2), (0, actF (mem 65 27) (mem 79)), (0, v), (0, i), (9, 0), (9, 0)] [] mS mem) (fun i i0 i1 ih v hv hb => ?_) 0 (by omega) (by omega) 0 (by omega) (fun b b0 => ⟨fun z => (by rw [tb_0] at z; exact absurd z (by decide)), fun z => (by omega)⟩)
    have or0 : or32 v 0 = v := or32_zero ⟨by omega, by omega⟩
    have same : i < 8 → (¬ (tb (actF (mem 65 27) (mem 79)) i = true ∧ ¬ x2 = i ∧ ¬ nearP (mem 65 27) (mem 79) x1 x2 i)) → mmT bX12_players 4 0 0 (mQ 0 (fun v m => playersP (mem 65 27) (mem 79) x1 x2 v ∧ ∀ a, a ≠ 97 → m a = mem a)) 53 [(2, 65), (0, x1), (0, x2), (0, actF (mem 65 27) (mem 79)), (0, or32 v 0), (0, i + 1), (9, 0), (9, 0)] [] mS mem := by
      intro g no
      rw [or0]
      refine ih g v hv (fun b b0 => ?_)
      rw [hb b b0]
      constructor
      · rintro ⟨d1, d2⟩
        exact ⟨by omega, d2⟩
      · rintro ⟨d1, d2⟩
        refine ⟨?_, d2⟩
        by_cases e : b = i
        · rw [e] at d2
          exact absurd d2 no
        · omega
    refine bk_X12_players_53 (d1 := 1) (P1 := fun v2 m2 => v2 = (if pB (nearP (mem 65 27) (mem 79) x1 x2 i) = true then 0 else 1) ∧ m2 = mem) (fun g g2 g3 g4 => c_X12_canBeOne mem x2 i x1 hp h2 (by omega) h1) (fun g g2 => by omega) (fun g g2 => by omega) (fun g g2 g3 => same g (fun z => z.2.1 g3.symm)) (fun g g2 g3 g4 => same g (fun z => g4 ((bt i i0 (by omega)).mpr z.1))) (fun g g2 g3 g4 v2 m2 w g5 => ?_) (fun g g2 g3 g4 v2 m2 w g5 => ?_) (fun g g2 => ⟨Or.inr (Or.inr ⟨⟨hn0, hx1⟩, ⟨hx2, ht⟩, hv, fun b b0 => ?_⟩), fun _ _ => rfl⟩) (fun g g2 g3 => by omega) (s4 := fun _ _ _ _ v2 m2 w => by rw [w.1]; split <;> omega)
    · rw [w.2]
      refine same g (fun z => z.2.2 (Classical.byContradiction fun y => ?_))
      rw [w.1, pB_no y, if_neg (by decide)] at g5
      cases g5
    · rw [w.2]
      have ny : ¬ nearP (mem 65 27) (mem 79) x1 x2 i := fun y => g5 (by rw [w.1, if_pos (pB_iff.mpr y)])
      have s1 := shl1_eq (k := i) i0 (by omega)
      have p1 := p2_pos i
      have p1' := p2_lt (i := i) (j := 8) i0 g
      have o := or32_b (x := v) (y := p2 i) (b := 8) hv.1 (by omega) (by omega) (by omega) (by decide)
      rw [s1]
      refine ih g _ (by omega) (fun b b0 => ?_)
      rw [o.2, tb_p2 i0 b0, Bool.or_eq_true, decide_eq_true_iff, hb b b0]
      constructor
      · rintro (⟨d1, d2⟩ | d)
        · exact ⟨by omega, d2⟩
        · rw [← d]
          exact ⟨by omega, (bt i i0 (by omega)).mp g4, fun z => g3 z.symm, ny⟩
      · rintro ⟨d1, d2⟩
        by_cases e : i = b
        · exact Or.inr e
        · exact Or.inl ⟨by omega, d2⟩
    · rw [hb b b0]
      constructor
      · rintro ⟨-, d⟩
        exact d
      · intro d
        refine ⟨?_, d⟩
        rcases Int.lt_or_le b i with z | z
        · exact z
        · have := tb_big (x := actF (mem 65 27) (mem 79)) (b := 8) (j := b) at'.1.1 (by omega) (by omega)
          rw [this] at d
          cases d.1
  refine cn_X12_players (bk_X12_players_0 (d1 := 1) (d2 := 1) (d3 := 1) (P1 := fun v m => v = actF (mem 65 27) (mem 79) ∧ m = mem) (P2 := fun v m => v = actF (mem 65 27) (mem 79) ∧ m = mem) (P3 := fun v m => v = actF (mem 65 27) (mem 79) ∧ m = mem) (fun _ _ _ => ca) (fun _ _ _ _ => ca) (fun _ _ _ _ v m w _ => by rw [w.2]; exact ca) (fun g g2 g3 v m w => ?_) (fun g g2 g3 g4 v m w g5 v6 m6 w6 => ?_) (fun g => ⟨Or.inl ⟨by omega, rfl⟩, fun _ _ => rfl⟩) (fun g g2 => ⟨Or.inl ⟨fun z => g2 z.2.1, rfl⟩, fun _ _ => rfl⟩) (fun g g2 g3 g4 => ⟨Or.inl ⟨fun z => by rcases z.2.2 with z | z <;> omega, rfl⟩, fun _ _ => rfl⟩) (fun g g2 g3 g4 v m w g5 => ⟨Or.inl ⟨fun z => ?_, rfl⟩, fun a _ => by rw [w.2]⟩))
  · rw [w.1, w.2]
    have d := dp (by omega) g2 g3
    refine bk_X12_players_53 (d1 := 1) (P1 := fun _ _ => True) (fun _ z => absurd g3 z) (fun z _ => d) (fun _ _ _ => d) (fun _ z => absurd g3 z) (fun _ z => absurd g3 z) (fun _ z => absurd g3 z) (fun _ z => absurd g3 z) (fun _ z => absurd g3 z) (fun _ _ z => absurd g3 z) (s4 := fun _ z => absurd g3 z)
  · rw [w6.1, w6.2]
    rw [w.1] at g5
    exact whom (by omega) g2 (by omega) ((bt x2 g4.1 (by omega)).mp g5)
  · rw [w.1] at g5
    rcases z.2.2 with z | z
    · exact g3 z
    · exact g5 ((bt x2 g4.1 (by omega)).mpr z.2)
