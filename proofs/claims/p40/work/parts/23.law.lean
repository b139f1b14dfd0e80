/-! the law held -/
theorem cn_X8_weigh_n {d : Nat} {P : mmM → Prop} {mem : mmM} (h : mmT bX8_weigh d 0 0 (mQv P) 0 [(2, 23), (2, (-1)), (9, 0)] [] mS mem) : conv bX8_weigh d [(2, 23), (2, (-1))] mem P := mmC_of [(2, 23), (2, (-1)), (9, 0)] ok_X8_weigh.2.2.2.2 rfl (Nat.le_of_ble_eq_true rfl) h
theorem bk_X8_weigh_n_0 {d : Nat} {P : mmM → Prop} {mem : mmM}
  (k1 : mmT bX8_weigh d 0 0 (mQv P) 2 [(2, 23), (2, (-1)), (0, 0)] [] mS mem)
  : mmT bX8_weigh d 0 0 (mQv P) 0 [(2, 23), (2, (-1)), (9, 0)] [] mS mem := by
  refine st_iconst dX8_weigh_0 ?_
  refine st_istore_n (i := 2) rfl (by decide) (lc' := [(2, 23), (2, (-1)), (0, 0)]) rfl dX8_weigh_1 ?_
  exact st_locals [(2, 23), (2, (-1)), (0, 0)] ⟨Or.inr rfl, Or.inr rfl, Or.inr rfl, trivial⟩ k1
theorem bk_X8_weigh_n_2 {d : Nat} {P : mmM → Prop} {mem : mmM} {x2 : Int}
  (k1 : x2 < (mem 23 1) → mmT bX8_weigh d 0 0 (mQv P) 2 [(2, 23), (2, (-1)), (0, (x2 + 1))] [] mS (mset (mset mem 31 x2 0) 32 x2 0))
  (q1 : (mem 23 1) ≤ x2 → P mem)
  (s1 : R32 x2 := by intros; first | omega | assumption | solve_by_elim)
  (s2 : x2 < (mem 23 1) → 0 ≤ x2 ∧ x2 < 24 := by intros; first | omega | assumption | solve_by_elim)
  : mmT bX8_weigh d 0 0 (mQv P) 2 [(2, 23), (2, (-1)), (0, x2)] [] mS mem := by
  refine st_iload_n (i := 2) rfl rfl dX8_weigh_2 ?_
  refine st_aload_n (i := 0) rfl (t := 0) rfl (by decide) dX8_weigh_3 ?_
  refine so_getI (v := (mem 23 1)) 23 1 fr_X8_60_8 rfl sh_23 rfl dX8_weigh_4 (fun r1 => ?_)
  refine sr_icmp_ge 64 s1 r1 (by decide) dX8_weigh_7 (fun h1 => ?_) (fun h1 => ?_)
  · have h1 : (mem 23 1) ≤ x2 := by omega
    exact st_return rfl dX8_weigh_64 (mQv.ret (q1 h1))
  · have h1 : x2 < (mem 23 1) := by omega
    refine st_aload_n (i := 0) rfl (t := 0) rfl (by decide) dX8_weigh_10 ?_
    refine so_getA 23 9 fr_X8_33_8 rfl sh_23 fx_23_9 dX8_weigh_11 ?_
    refine st_iload_n (i := 2) rfl rfl dX8_weigh_14 ?_
    refine st_aload_n (i := 1) rfl (t := 0) rfl (by decide) dX8_weigh_15 ?_
    refine st_ifnonnull 23 (by decide) dX8_weigh_16 (fun h => absurd h (by decide)) (fun _ => ?_)
    refine st_iconst dX8_weigh_19 ?_
    refine st_goto 33 (by decide) dX8_weigh_20 ?_
    refine so_iast 31 fr_31 rfl sh_31 (by decide) (s2 h1) ⟨by decide, by decide⟩ dX8_weigh_33 ?_
    refine st_aload_n (i := 0) rfl (t := 0) rfl (by decide) dX8_weigh_34 ?_
    refine so_getA 23 10 fr_X8_36_8 rfl sh_23 fx_23_10 dX8_weigh_35 ?_
    refine st_iload_n (i := 2) rfl rfl dX8_weigh_38 ?_
    refine st_aload_n (i := 1) rfl (t := 0) rfl (by decide) dX8_weigh_39 ?_
    refine st_ifnonnull 47 (by decide) dX8_weigh_40 (fun h => absurd h (by decide)) (fun _ => ?_)
    refine st_iconst dX8_weigh_43 ?_
    refine st_goto 57 (by decide) dX8_weigh_44 ?_
    refine so_iast 32 fr_32 rfl sh_32 (by decide) (s2 h1) ⟨by decide, by decide⟩ dX8_weigh_57 ?_
    refine st_iinc (y := (x2 + 1)) (by decide) (i := 2) rfl rfl (lc' := [(2, 23), (2, (-1)), (0, (x2 + 1))]) rfl dX8_weigh_58 ?_
    refine st_goto 2 (by decide) dX8_weigh_61 ?_
    exact st_locals [(2, 23), (2, (-1)), (0, (x2 + 1))] ⟨Or.inr rfl, Or.inr rfl, Or.inr rfl, trivial⟩ (k1 h1)
theorem cn_X11_heldLaw_0 {d : Nat} {P : Int → mmM → Prop} {mem : mmM} (h : mmT bX11_heldLaw d 0 0 (mQ 2 P) 0 [(2, 0)] [] mS mem) : con 2 bX11_heldLaw d [(2, 0)] mem P := mmC_of [(2, 0)] ok_X11_heldLaw.2.2.2.2 rfl (Nat.le_of_ble_eq_true rfl) h
theorem bk_X11_heldLaw_0_0 {d : Nat} {P : Int → mmM → Prop} {mem : mmM}
  (oi_0 : (mem 0 12) = 0)
  (q1 : (mem 0 12) < 0 → P (-1) mem)
  (q2 : 0 ≤ (mem 0 12) → 4 ≤ (mem 0 12) → P (-1) mem)
  (q3 : 0 ≤ (mem 0 12) → (mem 0 12) < 4 → P 11 mem)
  : mmT bX11_heldLaw d 0 0 (mQ 2 P) 0 [(2, 0)] [] mS mem := by
  refine st_aload_n (i := 0) rfl (t := 0) rfl (by decide) dX11_heldLaw_0 ?_
  refine so_getI (v := (mem 0 12)) 0 12 fr_X11_88_10 rfl sh_0 rfl dX11_heldLaw_1 (fun r1 => ?_)
  refine sr_if_lt 31 r1 (by decide) dX11_heldLaw_4 (fun h1 => ?_) (fun h1 => ?_)
  · have h1 : (mem 0 12) < 0 := by omega
    refine st_aconst_null dX11_heldLaw_31 ?_
    exact st_areturn rfl (Or.inl ⟨_, rfl⟩) dX11_heldLaw_32 (mQ.ret (q1 h1))
  · have h1 : 0 ≤ (mem 0 12) := by omega
    refine st_aload_n (i := 0) rfl (t := 0) rfl (by decide) dX11_heldLaw_7 ?_
    refine so_getI (v := (mem 0 12)) 0 12 fr_X11_88_10 rfl sh_0 rfl dX11_heldLaw_8 (fun r2 => ?_)
    refine st_aload_n (i := 0) rfl (t := 0) rfl (by decide) dX11_heldLaw_11 ?_
    refine so_getA 0 3 fr_X11_34_10 rfl sh_0 fx_0_3 dX11_heldLaw_12 ?_
    refine so_alen (v := 4) 10 rfl sh_10 (by decide) rfl dX11_heldLaw_15 ?_
    refine sr_icmp_ge 31 r2 ⟨by decide, by decide⟩ (by decide) dX11_heldLaw_16 (fun h2 => ?_) (fun h2 => ?_)
    · have h2 : 4 ≤ (mem 0 12) := by omega
      refine st_aconst_null dX11_heldLaw_31 ?_
      exact st_areturn rfl (Or.inl ⟨_, rfl⟩) dX11_heldLaw_32 (mQ.ret (q2 h1 h2))
    · have h2 : (mem 0 12) < 4 := by omega
      refine st_aload_n (i := 0) rfl (t := 0) rfl (by decide) dX11_heldLaw_19 ?_
      refine so_getA 0 3 fr_X11_34_10 rfl sh_0 fx_0_3 dX11_heldLaw_20 ?_
      refine st_aload_n (i := 0) rfl (t := 0) rfl (by decide) dX11_heldLaw_23 ?_
      refine so_getI (v := (mem 0 12)) 0 12 fr_X11_88_10 rfl sh_0 rfl dX11_heldLaw_24 (fun r3 => ?_)
      refine so_aald (v := 11) 10 (by decide) rfl sh_10 (by decide) (by omega) (fun hfx => by rw [oi_0]; exact hfx _ fx_10_0) dX11_heldLaw_27 ?_
      refine st_goto 32 (by decide) dX11_heldLaw_28 ?_
      exact st_areturn rfl (Or.inl ⟨_, rfl⟩) dX11_heldLaw_32 (mQ.ret (q3 h1 h2))
theorem cn_X11_heldLaw_1 {d : Nat} {P : Int → mmM → Prop} {mem : mmM} (h : mmT bX11_heldLaw d 0 0 (mQ 2 P) 0 [(2, 0)] [] mS mem) : con 2 bX11_heldLaw d [(2, 0)] mem P := mmC_of [(2, 0)] ok_X11_heldLaw.2.2.2.2 rfl (Nat.le_of_ble_eq_true rfl) h
theorem bk_X11_heldLaw_1_0 {d : Nat} {P : Int → mmM → Prop} {mem : mmM}
  (oi_0 : (mem 0 12) = 1)
  (q1 : (mem 0 12) < 0 → P (-1) mem)
  (q2 : 0 ≤ (mem 0 12) → 4 ≤ (mem 0 12) → P (-1) mem)
  (q3 : 0 ≤ (mem 0 12) → (mem 0 12) < 4 → P 14 mem)
  : mmT bX11_heldLaw d 0 0 (mQ 2 P) 0 [(2, 0)] [] mS mem := by
  refine st_aload_n (i := 0) rfl (t := 0) rfl (by decide) dX11_heldLaw_0 ?_
  refine so_getI (v := (mem 0 12)) 0 12 fr_X11_88_10 rfl sh_0 rfl dX11_heldLaw_1 (fun r1 => ?_)
  refine sr_if_lt 31 r1 (by decide) dX11_heldLaw_4 (fun h1 => ?_) (fun h1 => ?_)
  · have h1 : (mem 0 12) < 0 := by omega
    refine st_aconst_null dX11_heldLaw_31 ?_
    exact st_areturn rfl (Or.inl ⟨_, rfl⟩) dX11_heldLaw_32 (mQ.ret (q1 h1))
  · have h1 : 0 ≤ (mem 0 12) := by omega
    refine st_aload_n (i := 0) rfl (t := 0) rfl (by decide) dX11_heldLaw_7 ?_
    refine so_getI (v := (mem 0 12)) 0 12 fr_X11_88_10 rfl sh_0 rfl dX11_heldLaw_8 (fun r2 => ?_)
    refine st_aload_n (i := 0) rfl (t := 0) rfl (by decide) dX11_heldLaw_11 ?_
    refine so_getA 0 3 fr_X11_34_10 rfl sh_0 fx_0_3 dX11_heldLaw_12 ?_
    refine so_alen (v := 4) 10 rfl sh_10 (by decide) rfl dX11_heldLaw_15 ?_
    refine sr_icmp_ge 31 r2 ⟨by decide, by decide⟩ (by decide) dX11_heldLaw_16 (fun h2 => ?_) (fun h2 => ?_)
    · have h2 : 4 ≤ (mem 0 12) := by omega
      refine st_aconst_null dX11_heldLaw_31 ?_
      exact st_areturn rfl (Or.inl ⟨_, rfl⟩) dX11_heldLaw_32 (mQ.ret (q2 h1 h2))
    · have h2 : (mem 0 12) < 4 := by omega
      refine st_aload_n (i := 0) rfl (t := 0) rfl (by decide) dX11_heldLaw_19 ?_
      refine so_getA 0 3 fr_X11_34_10 rfl sh_0 fx_0_3 dX11_heldLaw_20 ?_
      refine st_aload_n (i := 0) rfl (t := 0) rfl (by decide) dX11_heldLaw_23 ?_
      refine so_getI (v := (mem 0 12)) 0 12 fr_X11_88_10 rfl sh_0 rfl dX11_heldLaw_24 (fun r3 => ?_)
      refine so_aald (v := 14) 10 (by decide) rfl sh_10 (by decide) (by omega) (fun hfx => by rw [oi_0]; exact hfx _ fx_10_1) dX11_heldLaw_27 ?_
      refine st_goto 32 (by decide) dX11_heldLaw_28 ?_
      exact st_areturn rfl (Or.inl ⟨_, rfl⟩) dX11_heldLaw_32 (mQ.ret (q3 h1 h2))
theorem cn_X11_heldLaw_2 {d : Nat} {P : Int → mmM → Prop} {mem : mmM} (h : mmT bX11_heldLaw d 0 0 (mQ 2 P) 0 [(2, 0)] [] mS mem) : con 2 bX11_heldLaw d [(2, 0)] mem P := mmC_of [(2, 0)] ok_X11_heldLaw.2.2.2.2 rfl (Nat.le_of_ble_eq_true rfl) h
theorem bk_X11_heldLaw_2_0 {d : Nat} {P : Int → mmM → Prop} {mem : mmM}
  (oi_0 : (mem 0 12) = 2)
  (q1 : (mem 0 12) < 0 → P (-1) mem)
  (q2 : 0 ≤ (mem 0 12) → 4 ≤ (mem 0 12) → P (-1) mem)
  (q3 : 0 ≤ (mem 0 12) → (mem 0 12) < 4 → P 17 mem)
  : mmT bX11_heldLaw d 0 0 (mQ 2 P) 0 [(2, 0)] [] mS mem := by
  refine st_aload_n (i := 0) rfl (t := 0) rfl (by decide) dX11_heldLaw_0 ?_
  refine so_getI (v := (mem 0 12)) 0 12 fr_X11_88_10 rfl sh_0 rfl dX11_heldLaw_1 (fun r1 => ?_)
  refine sr_if_lt 31 r1 (by decide) dX11_heldLaw_4 (fun h1 => ?_) (fun h1 => ?_)
  · have h1 : (mem 0 12) < 0 := by omega
    refine st_aconst_null dX11_heldLaw_31 ?_
    exact st_areturn rfl (Or.inl ⟨_, rfl⟩) dX11_heldLaw_32 (mQ.ret (q1 h1))
  · have h1 : 0 ≤ (mem 0 12) := by omega
    refine st_aload_n (i := 0) rfl (t := 0) rfl (by decide) dX11_heldLaw_7 ?_
    refine so_getI (v := (mem 0 12)) 0 12 fr_X11_88_10 rfl sh_0 rfl dX11_heldLaw_8 (fun r2 => ?_)
    refine st_aload_n (i := 0) rfl (t := 0) rfl (by decide) dX11_heldLaw_11 ?_
    refine so_getA 0 3 fr_X11_34_10 rfl sh_0 fx_0_3 dX11_heldLaw_12 ?_
    refine so_alen (v := 4) 10 rfl sh_10 (by decide) rfl dX11_heldLaw_15 ?_
    refine sr_icmp_ge 31 r2 ⟨by decide, by decide⟩ (by decide) dX11_heldLaw_16 (fun h2 => ?_) (fun h2 => ?_)
    · have h2 : 4 ≤ (mem 0 12) := by omega
      refine st_aconst_null dX11_heldLaw_31 ?_
      exact st_areturn rfl (Or.inl ⟨_, rfl⟩) dX11_heldLaw_32 (mQ.ret (q2 h1 h2))
    · have h2 : (mem 0 12) < 4 := by omega
      refine st_aload_n (i := 0) rfl (t := 0) rfl (by decide) dX11_heldLaw_19 ?_
      refine so_getA 0 3 fr_X11_34_10 rfl sh_0 fx_0_3 dX11_heldLaw_20 ?_
      refine st_aload_n (i := 0) rfl (t := 0) rfl (by decide) dX11_heldLaw_23 ?_
      refine so_getI (v := (mem 0 12)) 0 12 fr_X11_88_10 rfl sh_0 rfl dX11_heldLaw_24 (fun r3 => ?_)
      refine so_aald (v := 17) 10 (by decide) rfl sh_10 (by decide) (by omega) (fun hfx => by rw [oi_0]; exact hfx _ fx_10_2) dX11_heldLaw_27 ?_
      refine st_goto 32 (by decide) dX11_heldLaw_28 ?_
      exact st_areturn rfl (Or.inl ⟨_, rfl⟩) dX11_heldLaw_32 (mQ.ret (q3 h1 h2))
theorem cn_X11_heldLaw_3 {d : Nat} {P : Int → mmM → Prop} {mem : mmM} (h : mmT bX11_heldLaw d 0 0 (mQ 2 P) 0 [(2, 0)] [] mS mem) : con 2 bX11_heldLaw d [(2, 0)] mem P := mmC_of [(2, 0)] ok_X11_heldLaw.2.2.2.2 rfl (Nat.le_of_ble_eq_true rfl) h
theorem bk_X11_heldLaw_3_0 {d : Nat} {P : Int → mmM → Prop} {mem : mmM}
  (oi_0 : (mem 0 12) = 3)
  (q1 : (mem 0 12) < 0 → P (-1) mem)
  (q2 : 0 ≤ (mem 0 12) → 4 ≤ (mem 0 12) → P (-1) mem)
  (q3 : 0 ≤ (mem 0 12) → (mem 0 12) < 4 → P 20 mem)
  : mmT bX11_heldLaw d 0 0 (mQ 2 P) 0 [(2, 0)] [] mS mem := by
  refine st_aload_n (i := 0) rfl (t := 0) rfl (by decide) dX11_heldLaw_0 ?_
  refine so_getI (v := (mem 0 12)) 0 12 fr_X11_88_10 rfl sh_0 rfl dX11_heldLaw_1 (fun r1 => ?_)
  refine sr_if_lt 31 r1 (by decide) dX11_heldLaw_4 (fun h1 => ?_) (fun h1 => ?_)
  · have h1 : (mem 0 12) < 0 := by omega
    refine st_aconst_null dX11_heldLaw_31 ?_
    exact st_areturn rfl (Or.inl ⟨_, rfl⟩) dX11_heldLaw_32 (mQ.ret (q1 h1))
  · have h1 : 0 ≤ (mem 0 12) := by omega
    refine st_aload_n (i := 0) rfl (t := 0) rfl (by decide) dX11_heldLaw_7 ?_
    refine so_getI (v := (mem 0 12)) 0 12 fr_X11_88_10 rfl sh_0 rfl dX11_heldLaw_8 (fun r2 => ?_)
    refine st_aload_n (i := 0) rfl (t := 0) rfl (by decide) dX11_heldLaw_11 ?_
    refine so_getA 0 3 fr_X11_34_10 rfl sh_0 fx_0_3 dX11_heldLaw_12 ?_
    refine so_alen (v := 4) 10 rfl sh_10 (by decide) rfl dX11_heldLaw_15 ?_
    refine sr_icmp_ge 31 r2 ⟨by decide, by decide⟩ (by decide) dX11_heldLaw_16 (fun h2 => ?_) (fun h2 => ?_)
    · have h2 : 4 ≤ (mem 0 12) := by omega
      refine st_aconst_null dX11_heldLaw_31 ?_
      exact st_areturn rfl (Or.inl ⟨_, rfl⟩) dX11_heldLaw_32 (mQ.ret (q2 h1 h2))
    · have h2 : (mem 0 12) < 4 := by omega
      refine st_aload_n (i := 0) rfl (t := 0) rfl (by decide) dX11_heldLaw_19 ?_
      refine so_getA 0 3 fr_X11_34_10 rfl sh_0 fx_0_3 dX11_heldLaw_20 ?_
      refine st_aload_n (i := 0) rfl (t := 0) rfl (by decide) dX11_heldLaw_23 ?_
      refine so_getI (v := (mem 0 12)) 0 12 fr_X11_88_10 rfl sh_0 rfl dX11_heldLaw_24 (fun r3 => ?_)
      refine so_aald (v := 20) 10 (by decide) rfl sh_10 (by decide) (by omega) (fun hfx => by rw [oi_0]; exact hfx _ fx_10_3) dX11_heldLaw_27 ?_
      refine st_goto 32 (by decide) dX11_heldLaw_28 ?_
      exact st_areturn rfl (Or.inl ⟨_, rfl⟩) dX11_heldLaw_32 (mQ.ret (q3 h1 h2))
theorem cn_X11_heldLaw_n {d : Nat} {P : Int → mmM → Prop} {mem : mmM} (h : mmT bX11_heldLaw d 0 0 (mQ 2 P) 0 [(2, 0)] [] mS mem) : con 2 bX11_heldLaw d [(2, 0)] mem P := mmC_of [(2, 0)] ok_X11_heldLaw.2.2.2.2 rfl (Nat.le_of_ble_eq_true rfl) h
theorem bk_X11_heldLaw_n_0 {d : Nat} {P : Int → mmM → Prop} {mem : mmM}
  (oi_0 : (mem 0 12) = -1)
  (q1 : (mem 0 12) < 0 → P (-1) mem)
  (q2 : 0 ≤ (mem 0 12) → 4 ≤ (mem 0 12) → P (-1) mem)
  : mmT bX11_heldLaw d 0 0 (mQ 2 P) 0 [(2, 0)] [] mS mem := by
  refine st_aload_n (i := 0) rfl (t := 0) rfl (by decide) dX11_heldLaw_0 ?_
  refine so_getI (v := (mem 0 12)) 0 12 fr_X11_88_10 rfl sh_0 rfl dX11_heldLaw_1 (fun r1 => ?_)
  refine sr_if_lt 31 r1 (by decide) dX11_heldLaw_4 (fun h1 => ?_) (fun h1 => ?_)
  · have h1 : (mem 0 12) < 0 := by omega
    refine st_aconst_null dX11_heldLaw_31 ?_
    exact st_areturn rfl (Or.inl ⟨_, rfl⟩) dX11_heldLaw_32 (mQ.ret (q1 h1))
  · have h1 : 0 ≤ (mem 0 12) := by omega
    refine st_aload_n (i := 0) rfl (t := 0) rfl (by decide) dX11_heldLaw_7 ?_
    refine so_getI (v := (mem 0 12)) 0 12 fr_X11_88_10 rfl sh_0 rfl dX11_heldLaw_8 (fun r2 => ?_)
    refine st_aload_n (i := 0) rfl (t := 0) rfl (by decide) dX11_heldLaw_11 ?_
    refine so_getA 0 3 fr_X11_34_10 rfl sh_0 fx_0_3 dX11_heldLaw_12 ?_
    refine so_alen (v := 4) 10 rfl sh_10 (by decide) rfl dX11_heldLaw_15 ?_
    refine sr_icmp_ge 31 r2 ⟨by decide, by decide⟩ (by decide) dX11_heldLaw_16 (fun h2 => ?_) (fun h2 => ?_)
    · have h2 : 4 ≤ (mem 0 12) := by omega
      refine st_aconst_null dX11_heldLaw_31 ?_
      exact st_areturn rfl (Or.inl ⟨_, rfl⟩) dX11_heldLaw_32 (mQ.ret (q2 h1 h2))
    · have h2 : (mem 0 12) < 4 := by omega
      refine st_aload_n (i := 0) rfl (t := 0) rfl (by decide) dX11_heldLaw_19 ?_
      refine so_getA 0 3 fr_X11_34_10 rfl sh_0 fx_0_3 dX11_heldLaw_20 ?_
      refine st_aload_n (i := 0) rfl (t := 0) rfl (by decide) dX11_heldLaw_23 ?_
      refine so_getI (v := (mem 0 12)) 0 12 fr_X11_88_10 rfl sh_0 rfl dX11_heldLaw_24 (fun r3 => ?_)
      exact absurd oi_0 (by omega)
theorem c_X8_weigh_n (mem : mmM) (hn : 0 ≤ mem 23 1 ∧ mem 23 1 ≤ 24) : conv bX8_weigh 5 [(2, 23), (2, -1)] mem (fun m => (∀ a, a ≠ 31 → a ≠ 32 → m a = mem a) ∧ ∀ i, 0 ≤ i → i < mem 23 1 → m 31 i = 0 ∧ m 32 i = 0) := by
  refine cn_X8_weigh_n (bk_X8_weigh_n_0 ?_)
  refine loop_up (n := mem 23 1) (fun i => ∀ m : mmM, (∀ a, a ≠ 31 → a ≠ 32 → m a = mem a) → (∀ t, 0 ≤ t → t < i → m 31 t = 0 ∧ m 32 t = 0) → mmT bX8_weigh 5 0 0 (mQv (fun m => (∀ a, a ≠ 31 → a ≠ 32 → m a = mem a) ∧ ∀ i, 0 ≤ i → i < mem 23 1 → m 31 i = 0 ∧ m 32 i = 0)) 2 [(2, 23), (2, -1), (0, i)] [] mS m) (fun i h0 h1 ih m f d => ?_) 0 (by omega) hn.1 mem (fun a _ _ => rfl) (fun t t0 t1 => by omega)
  have e23 : m 23 = mem 23 := f 23 (by decide) (by decide)
  refine bk_X8_weigh_n_2 (fun g => ?_) (fun g => ?_) (s2 := fun g => by rw [e23] at g; omega)
  · rw [e23] at g
    refine ih g _ (fun a a1 a2 => ?_) (fun t t0 t1 => ⟨?_, ?_⟩)
    · rw [mset_ne a2, mset_ne a1]
      exact f a a1 a2
    · rw [mset_ne (by decide), mset_at]
      split
      · rfl
      · exact (d t t0 (by omega)).1
    · rw [mset_at]
      split
      · rfl
      · rw [mset_ne (by decide)]
        exact (d t t0 (by omega)).2
  · rw [e23] at g
    exact ⟨f, fun t t0 t1 => d t t0 (by omega)⟩
def lawRef (k : Int) : Int := if k = 0 then 11 else if k = 1 then 14 else if k = 2 then 17 else if k = 3 then 20 else -1
theorem c_X11_heldLaw_0 (mem : mmM) (h : mem 0 12 = 0) : con 2 bX11_heldLaw 0 [(2, 0)] mem (fun v m => v = 11 ∧ m = mem) :=
  cn_X11_heldLaw_0 (bk_X11_heldLaw_0_0 h (fun g => by omega) (fun g g2 => by omega) (fun g g2 => ⟨rfl, rfl⟩))
theorem c_X11_heldLaw_1 (mem : mmM) (h : mem 0 12 = 1) : con 2 bX11_heldLaw 0 [(2, 0)] mem (fun v m => v = 14 ∧ m = mem) :=
  cn_X11_heldLaw_1 (bk_X11_heldLaw_1_0 h (fun g => by omega) (fun g g2 => by omega) (fun g g2 => ⟨rfl, rfl⟩))
theorem c_X11_heldLaw_2 (mem : mmM) (h : mem 0 12 = 2) : con 2 bX11_heldLaw 0 [(2, 0)] mem (fun v m => v = 17 ∧ m = mem) :=
  cn_X11_heldLaw_2 (bk_X11_heldLaw_2_0 h (fun g => by omega) (fun g g2 => by omega) (fun g g2 => ⟨rfl, rfl⟩))
theorem c_X11_heldLaw_3 (mem : mmM) (h : mem 0 12 = 3) : con 2 bX11_heldLaw 0 [(2, 0)] mem (fun v m => v = 20 ∧ m = mem) :=
  cn_X11_heldLaw_3 (bk_X11_heldLaw_3_0 h (fun g => by omega) (fun g g2 => by omega) (fun g g2 => ⟨rfl, rfl⟩))
theorem c_X11_heldLaw_n (mem : mmM) (h : mem 0 12 = -1) : con 2 bX11_heldLaw 0 [(2, 0)] mem (fun v m => v = -1 ∧ m = mem) :=
  cn_X11_heldLaw_n (bk_X11_heldLaw_n_0 h (fun g => ⟨rfl, rfl⟩) (fun g g2 => ⟨rfl, rfl⟩))
/-- what holding a law does to the class: the law's number, and the rows of what is forgotten -/
def holdP (mem : mmM) (x : Int) (cl : lawT) (m : mmM) : Prop := (∀ a, (a < 11 ∨ 22 < a) → a ≠ 0 → a ≠ 31 → a ≠ 32 → m a = mem a) ∧ (∀ j, j ≠ 12 → m 0 j = mem 0 j) ∧ m 0 12 = x ∧ (m 11 1 = mem 11 1 ∧ m 14 1 = mem 14 1 ∧ m 17 1 = mem 17 1 ∧ m 20 1 = mem 20 1) ∧ (m 12 = mem 12 ∧ m 15 = mem 15 ∧ m 18 = mem 18 ∧ m 21 = mem 21) ∧ ∀ i, 0 ≤ i → i < mem 23 1 → m 31 i = (if x = -1 then 0 else percS (lawV (fun k => letterX mem (leF k) i 0) cl)) ∧ m 32 i = (if x = -1 then 0 else percS (lawV (fun k => letterX mem (leF k) i 1) cl))
theorem letterX_0 (mem : mmM) (x : Int) : letterX (mset mem 0 12 x) = letterX mem := by
  funext a b c
  unfold letterX
  rw [mset_ne (by decide), mset_ne (by decide), mset_ne (by decide), mset_ne (by decide), mset_ne (by decide)]
theorem cn_X11_law {d : Nat} {P : Int → mmM → Prop} {mem : mmM} {x1 : Int} (h : mmT bX11_law d 0 0 (mQ 0 P) 0 [(2, 0), (0, x1)] [] mS mem) : con 0 bX11_law d [(2, 0), (0, x1)] mem P := mmC_of [(2, 0), (0, x1)] ok_X11_law.2.2.2.2 rfl (Nat.le_of_ble_eq_true rfl) h
theorem bk_X11_law_0 {d : Nat} {d1 : Nat} {P1 : Int → mmM → Prop} {d2 : Nat} {P2 : mmM → Prop} {P : Int → mmM → Prop} {mem : mmM} {x1 : Int}
  (c1 : (-1) ≤ x1 → x1 < (mem 0 11) → con 2 bX11_heldLaw d1 [(2, 0)] (mset mem 0 12 x1) P1)
  (c2 : (-1) ≤ x1 → x1 < (mem 0 11) → ∀ (v1 : Int), ∀ (m1 : mmM), P1 v1 m1 → conv bX8_weigh d2 [(2, 23), (2, v1)] m1 P2)
  (q1 : x1 < (-1) → P 0 mem)
  (q2 : (-1) ≤ x1 → x1 < (mem 0 11) → ∀ (v1 : Int), ∀ (m1 : mmM), P1 v1 m1 → ∀ (m2 : mmM), P2 m2 → P 1 m2)
  (q3 : (-1) ≤ x1 → (mem 0 11) ≤ x1 → P 0 mem)
  (hd_d1 : d1 + 1 ≤ d := by omega)
  (hd_d2 : d2 + 1 ≤ d := by omega)
  (s1 : R32 x1 := by intros; first | omega | assumption | solve_by_elim)
  : mmT bX11_law d 0 0 (mQ 0 P) 0 [(2, 0), (0, x1)] [] mS mem := by
  refine st_iload_n (i := 1) rfl rfl dX11_law_0 ?_
  refine st_iconst dX11_law_1 ?_
  refine sr_icmp_lt 13 s1 ⟨by decide, by decide⟩ (by decide) dX11_law_2 (fun h1 => ?_) (fun h1 => ?_)
  · have h1 : x1 < (-1) := by omega
    refine st_iconst dX11_law_13 ?_
    exact st_zreturn rfl (by decide) dX11_law_14 (mQ.ret (q1 h1))
  · have h1 : (-1) ≤ x1 := by omega
    refine st_iload_n (i := 1) rfl rfl dX11_law_5 ?_
    refine st_aload_n (i := 0) rfl (t := 0) rfl (by decide) dX11_law_6 ?_
    refine so_getI (v := (mem 0 11)) 0 11 fr_X11_111_10 rfl sh_0 rfl dX11_law_7 (fun r1 => ?_)
    refine sr_icmp_lt 15 s1 r1 (by decide) dX11_law_10 (fun h2 => ?_) (fun h2 => ?_)
    · have h2 : x1 < (mem 0 11) := by omega
      refine st_aload_n (i := 0) rfl (t := 0) rfl (by decide) dX11_law_15 ?_
      refine st_iload_n (i := 1) rfl rfl dX11_law_16 ?_
      refine so_putI 0 12 fr_X11_88_10 pf_10_12 fo_0_12 rfl sh_0 s1 dX11_law_17 ?_
      refine st_aload_n (i := 0) rfl (t := 0) rfl (by decide) dX11_law_20 ?_
      refine so_getA 0 4 fr_X11_42_10 rfl sh_0 fx_0_4 dX11_law_21 ?_
      refine st_aload_n (i := 0) rfl (t := 0) rfl (by decide) dX11_law_24 ?_
      refine st_callV (kc2 := 0) (ks2 := 0) (av := []) 0 10 mr_X11_121 ok_X11_heldLaw (c1 h1 h2) rfl sh_0 ⟨_, rfl, rfl, by decide⟩ rfl rfl hd_d1 (Nat.le_refl 0) (Nat.le_refl 0) (Nat.le_of_ble_eq_true rfl) dX11_law_25 (mQ.elim fun v1 m1 p1 => ?_)
      refine st_callV (kc2 := 0) (ks2 := 0) (av := [(2, v1)]) 23 8 mr_X11_125 ok_X8_weigh (c2 h1 h2 v1 m1 p1) rfl sh_23 ⟨_, rfl, rfl, by decide⟩ rfl rfl hd_d2 (Nat.le_refl 0) (Nat.le_refl 0) (Nat.le_of_ble_eq_true rfl) dX11_law_28 (mQv.elim fun m2 p2 => ?_)
      refine st_iconst dX11_law_31 ?_
      exact st_zreturn rfl (by decide) dX11_law_32 (mQ.ret (q2 h1 h2 v1 m1 p1 m2 p2))
    · have h2 : (mem 0 11) ≤ x1 := by omega
      refine st_iconst dX11_law_13 ?_
      exact st_zreturn rfl (by decide) dX11_law_14 (mQ.ret (q3 h1 h2))
theorem c_X11_law (mem : mmM) (x1 : Int) (cl : lawT) (h1 : R32 x1) (hn : 0 ≤ mem 23 1 ∧ mem 23 1 ≤ 24) (hk : mem 0 11 ≤ 4) (hL : ∀ i b k, 0 ≤ i → i < mem 23 1 → (b = 0 ∨ b = 1) → -1000000 ≤ letterX mem (leF k) i b ∧ letterX mem (leF k) i b ≤ 1000000)
    (l0 : x1 = 0 → (0 ≤ mem 11 1 ∧ mem 11 1 ≤ 160) ∧ lawX (mem 12) (mem 11 1) 0 cl) (l1 : x1 = 1 → (0 ≤ mem 14 1 ∧ mem 14 1 ≤ 160) ∧ lawX (mem 15) (mem 14 1) 0 cl) (l2 : x1 = 2 → (0 ≤ mem 17 1 ∧ mem 17 1 ≤ 160) ∧ lawX (mem 18) (mem 17 1) 0 cl) (l3 : x1 = 3 → (0 ≤ mem 20 1 ∧ mem 20 1 ≤ 160) ∧ lawX (mem 21) (mem 20 1) 0 cl) :
    con 0 bX11_law 6 [(2, 0), (0, x1)] mem (fun v m => (¬ (-1 ≤ x1 ∧ x1 < mem 0 11) ∧ v = 0 ∧ m = mem) ∨ ((-1 ≤ x1 ∧ x1 < mem 0 11) ∧ v = 1 ∧ holdP mem x1 cl m)) := by
  have e12 : mset mem 0 12 x1 0 12 = x1 := mset_same _ _ _ _
  have ne : ∀ a, a ≠ 0 → mset mem 0 12 x1 a = mem a := fun a ha => mset_ne ha
  have held : ∀ (z : Int), lawRef x1 = z → -1 ≤ x1 → x1 < 4 → con 2 bX11_heldLaw 0 [(2, 0)] (mset mem 0 12 x1) (fun v m => v = z ∧ m = mset mem 0 12 x1) := by
    intro z hz g g2
    subst hz
    unfold lawRef
    have c : x1 = 0 ∨ x1 = 1 ∨ x1 = 2 ∨ x1 = 3 ∨ x1 = -1 := by omega
    rcases c with c | c | c | c | c
    · rw [if_pos c]
      exact c_X11_heldLaw_0 _ (by rw [e12]; exact c)
    · rw [if_neg (by omega), if_pos c]
      exact c_X11_heldLaw_1 _ (by rw [e12]; exact c)
    · rw [if_neg (by omega), if_neg (by omega), if_pos c]
      exact c_X11_heldLaw_2 _ (by rw [e12]; exact c)
    · rw [if_neg (by omega), if_neg (by omega), if_neg (by omega), if_pos c]
      exact c_X11_heldLaw_3 _ (by rw [e12]; exact c)
    · rw [if_neg (by omega), if_neg (by omega), if_neg (by omega), if_neg (by omega)]
      exact c_X11_heldLaw_n _ (by rw [e12]; exact c)
  have wei : ∀ v1 : Int, v1 = lawRef x1 → -1 ≤ x1 → x1 < 4 → conv bX8_weigh 5 [(2, 23), (2, v1)] (mset mem 0 12 x1) (fun m => holdP mem x1 cl m) := by
    intro v1 hv g g2
    subst hv
    unfold lawRef
    have c : x1 = 0 ∨ x1 = 1 ∨ x1 = 2 ∨ x1 = 3 ∨ x1 = -1 := by omega
    have hL' : ∀ i b k, 0 ≤ i → i < (mset mem 0 12 x1) 23 1 → (b = 0 ∨ b = 1) → -1000000 ≤ letterX (mset mem 0 12 x1) (leF k) i b ∧ letterX (mset mem 0 12 x1) (leF k) i b ≤ 1000000 := by
      rw [letterX_0, ne 23 (by decide)]
      exact hL
    have hn' : 0 ≤ (mset mem 0 12 x1) 23 1 ∧ (mset mem 0 12 x1) 23 1 ≤ 24 := by
      rw [ne 23 (by decide)]
      exact hn
    have z0 : ∀ m : mmM, m 0 = mset mem 0 12 x1 0 → (∀ j, j ≠ 12 → m 0 j = mem 0 j) ∧ m 0 12 = x1 := fun m e => ⟨fun j hj => by rw [e, mset_at, if_neg hj], by rw [e]; exact e12⟩
    rcases c with c | c | c | c | c
    · rw [if_pos c]
      have w := c_X8_weigh_11 (mset mem 0 12 x1) cl hn' hL' (by rw [ne 11 (by decide)]; exact (l0 c).1) (by rw [ne 12 (by decide), ne 11 (by decide)]; exact (l0 c).2)
      rw [letterX_0, ne 23 (by decide)] at w
      refine conv.mono w (fun m q => ⟨fun a a0 a1 a2 a3 => (q.1 a a2 a3 (by omega) (by omega)).trans (ne a a1), (z0 m (q.1 0 (by decide) (by decide) (by decide) (by decide))).1, (z0 m (q.1 0 (by decide) (by decide) (by decide) (by decide))).2, ⟨(q.2.1 1 (by decide)).trans (by rw [ne 11 (by decide)]), by rw [q.1 14 (by decide) (by decide) (by decide) (by decide), ne 14 (by decide)], by rw [q.1 17 (by decide) (by decide) (by decide) (by decide), ne 17 (by decide)], by rw [q.1 20 (by decide) (by decide) (by decide) (by decide), ne 20 (by decide)]⟩, ⟨(q.1 12 (by decide) (by decide) (by decide) (by decide)).trans (ne 12 (by decide)), (q.1 15 (by decide) (by decide) (by decide) (by decide)).trans (ne 15 (by decide)), (q.1 18 (by decide) (by decide) (by decide) (by decide)).trans (ne 18 (by decide)), (q.1 21 (by decide) (by decide) (by decide) (by decide)).trans (ne 21 (by decide))⟩, fun i i0 i1 => by rw [if_neg (by omega), if_neg (by omega)]; exact q.2.2 i i0 i1⟩)
    · rw [if_neg (by omega), if_pos c]
      have w := c_X8_weigh_14 (mset mem 0 12 x1) cl hn' hL' (by rw [ne 14 (by decide)]; exact (l1 c).1) (by rw [ne 15 (by decide), ne 14 (by decide)]; exact (l1 c).2)
      rw [letterX_0, ne 23 (by decide)] at w
      refine conv.mono w (fun m q => ⟨fun a a0 a1 a2 a3 => (q.1 a a2 a3 (by omega) (by omega)).trans (ne a a1), (z0 m (q.1 0 (by decide) (by decide) (by decide) (by decide))).1, (z0 m (q.1 0 (by decide) (by decide) (by decide) (by decide))).2, ⟨by rw [q.1 11 (by decide) (by decide) (by decide) (by decide), ne 11 (by decide)], (q.2.1 1 (by decide)).trans (by rw [ne 14 (by decide)]), by rw [q.1 17 (by decide) (by decide) (by decide) (by decide), ne 17 (by decide)], by rw [q.1 20 (by decide) (by decide) (by decide) (by decide), ne 20 (by decide)]⟩, ⟨(q.1 12 (by decide) (by decide) (by decide) (by decide)).trans (ne 12 (by decide)), (q.1 15 (by decide) (by decide) (by decide) (by decide)).trans (ne 15 (by decide)), (q.1 18 (by decide) (by decide) (by decide) (by decide)).trans (ne 18 (by decide)), (q.1 21 (by decide) (by decide) (by decide) (by decide)).trans (ne 21 (by decide))⟩, fun i i0 i1 => by rw [if_neg (by omega), if_neg (by omega)]; exact q.2.2 i i0 i1⟩)
    · rw [if_neg (by omega), if_neg (by omega), if_pos c]
      have w := c_X8_weigh_17 (mset mem 0 12 x1) cl hn' hL' (by rw [ne 17 (by decide)]; exact (l2 c).1) (by rw [ne 18 (by decide), ne 17 (by decide)]; exact (l2 c).2)
      rw [letterX_0, ne 23 (by decide)] at w
      refine conv.mono w (fun m q => ⟨fun a a0 a1 a2 a3 => (q.1 a a2 a3 (by omega) (by omega)).trans (ne a a1), (z0 m (q.1 0 (by decide) (by decide) (by decide) (by decide))).1, (z0 m (q.1 0 (by decide) (by decide) (by decide) (by decide))).2, ⟨by rw [q.1 11 (by decide) (by decide) (by decide) (by decide), ne 11 (by decide)], by rw [q.1 14 (by decide) (by decide) (by decide) (by decide), ne 14 (by decide)], (q.2.1 1 (by decide)).trans (by rw [ne 17 (by decide)]), by rw [q.1 20 (by decide) (by decide) (by decide) (by decide), ne 20 (by decide)]⟩, ⟨(q.1 12 (by decide) (by decide) (by decide) (by decide)).trans (ne 12 (by decide)), (q.1 15 (by decide) (by decide) (by decide) (by decide)).trans (ne 15 (by decide)), (q.1 18 (by decide) (by decide) (by decide) (by decide)).trans (ne 18 (by decide)), (q.1 21 (by decide) (by decide) (by decide) (by decide)).trans (ne 21 (by decide))⟩, fun i i0 i1 => by rw [if_neg (by omega), if_neg (by omega)]; exact q.2.2 i i0 i1⟩)
    · rw [if_neg (by omega), if_neg (by omega), if_neg (by omega), if_pos c]
      have w := c_X8_weigh_20 (mset mem 0 12 x1) cl hn' hL' (by rw [ne 20 (by decide)]; exact (l3 c).1) (by rw [ne 21 (by decide), ne 20 (by decide)]; exact (l3 c).2)
      rw [letterX_0, ne 23 (by decide)] at w
      refine conv.mono w (fun m q => ⟨fun a a0 a1 a2 a3 => (q.1 a a2 a3 (by omega) (by omega)).trans (ne a a1), (z0 m (q.1 0 (by decide) (by decide) (by decide) (by decide))).1, (z0 m (q.1 0 (by decide) (by decide) (by decide) (by decide))).2, ⟨by rw [q.1 11 (by decide) (by decide) (by decide) (by decide), ne 11 (by decide)], by rw [q.1 14 (by decide) (by decide) (by decide) (by decide), ne 14 (by decide)], by rw [q.1 17 (by decide) (by decide) (by decide) (by decide), ne 17 (by decide)], (q.2.1 1 (by decide)).trans (by rw [ne 20 (by decide)])⟩, ⟨(q.1 12 (by decide) (by decide) (by decide) (by decide)).trans (ne 12 (by decide)), (q.1 15 (by decide) (by decide) (by decide) (by decide)).trans (ne 15 (by decide)), (q.1 18 (by decide) (by decide) (by decide) (by decide)).trans (ne 18 (by decide)), (q.1 21 (by decide) (by decide) (by decide) (by decide)).trans (ne 21 (by decide))⟩, fun i i0 i1 => by rw [if_neg (by omega), if_neg (by omega)]; exact q.2.2 i i0 i1⟩)
    · rw [if_neg (by omega), if_neg (by omega), if_neg (by omega), if_neg (by omega)]
      have w := c_X8_weigh_n (mset mem 0 12 x1) hn'
      rw [ne 23 (by decide)] at w
      refine conv.mono w (fun m q => ⟨fun a a0 a1 a2 a3 => (q.1 a a2 a3).trans (ne a a1), (z0 m (q.1 0 (by decide) (by decide))).1, (z0 m (q.1 0 (by decide) (by decide))).2, ⟨by rw [q.1 11 (by decide) (by decide), ne 11 (by decide)], by rw [q.1 14 (by decide) (by decide), ne 14 (by decide)], by rw [q.1 17 (by decide) (by decide), ne 17 (by decide)], by rw [q.1 20 (by decide) (by decide), ne 20 (by decide)]⟩, ⟨(q.1 12 (by decide) (by decide)).trans (ne 12 (by decide)), (q.1 15 (by decide) (by decide)).trans (ne 15 (by decide)), (q.1 18 (by decide) (by decide)).trans (ne 18 (by decide)), (q.1 21 (by decide) (by decide)).trans (ne 21 (by decide))⟩, fun i i0 i1 => by rw [if_pos c, if_pos c]; exact q.2 i i0 i1⟩)
  refine cn_X11_law (bk_X11_law_0 (d1 := 0) (d2 := 5) (P1 := fun v m => v = lawRef x1 ∧ m = mset mem 0 12 x1) (P2 := fun m => holdP mem x1 cl m) (fun g g2 => held _ rfl g (by omega)) (fun g g2 v1 m1 q => by rw [q.2]; exact wei v1 q.1 g (by omega)) (fun g => Or.inl ⟨by omega, rfl, rfl⟩) (fun g g2 v1 m1 q m2 q2 => Or.inr ⟨⟨g, g2⟩, rfl, q2⟩) (fun g g2 => Or.inl ⟨by omega, rfl, rfl⟩))
