/-! the class's reads that only pass on -/
theorem cn_X11_leap {d : Nat} {P : Int → mmM → Prop} {mem : mmM} {x1 : Int} (h : mmT bX11_leap d 0 0 (mQ 0 P) 0 [(2, 0), (0, x1)] [] mS mem) : con 0 bX11_leap d [(2, 0), (0, x1)] mem P := mmC_of [(2, 0), (0, x1)] ok_X11_leap.2.2.2.2 rfl (Nat.le_of_ble_eq_true rfl) h
theorem bk_X11_leap_0 {d : Nat} {P : Int → mmM → Prop} {mem : mmM} {x1 : Int}
  (q1 : ¬ (0 ≤ x1 ∧ x1 < (mem 23 1)) → P (-1000000) mem)
  (q2 : (0 ≤ x1 ∧ x1 < (mem 23 1)) → P (mem 38 x1) mem)
  (hd2 : 2 ≤ d := by omega)
  (s1 : R32 x1 := by intros; first | omega | assumption | solve_by_elim)
  (s2 : (0 ≤ x1 ∧ x1 < (mem 23 1)) → 0 ≤ x1 ∧ x1 < 24 := by intros; first | omega | assumption | solve_by_elim)
  : mmT bX11_leap d 0 0 (mQ 0 P) 0 [(2, 0), (0, x1)] [] mS mem := by
  refine st_aload_n (i := 0) rfl (t := 0) rfl (by decide) dX11_leap_0 ?_
  refine so_getA 0 4 fr_X11_42_10 rfl sh_0 fx_0_4 dX11_leap_1 ?_
  refine st_iload_n (i := 1) rfl rfl dX11_leap_4 ?_
  refine st_callV (kc2 := 0) (ks2 := 0) (av := [(0, x1)]) 23 8 mr_X11_136 ok_X8_has (c_X8_has mem x1 (s1)) rfl sh_23 ⟨_, rfl, rfl, by decide⟩ rfl rfl hd2 (Nat.le_refl 0) (Nat.le_refl 0) (Nat.le_of_ble_eq_true rfl) dX11_leap_5 (mQ.elim fun v1 m1 hp => ?_)
  obtain ⟨hpv, hpm⟩ := hp
  subst hpv
  have hpm := hpm.symm
  subst hpm
  refine so_ifeqB 23 (by decide) dX11_leap_8 (fun h1 => ?_) (fun h1 => ?_)
  · have h1 : ¬ (0 ≤ x1 ∧ x1 < (mem 23 1)) := h1
    refine st_ldc cw_X11_194 dX11_leap_23 ?_
    exact st_ireturn rfl dX11_leap_25 (mQ.ret (q1 h1))
  · have h1 : (0 ≤ x1 ∧ x1 < (mem 23 1)) := h1
    refine st_aload_n (i := 0) rfl (t := 0) rfl (by decide) dX11_leap_11 ?_
    refine so_getA 0 5 fr_X11_51_10 rfl sh_0 fx_0_5 dX11_leap_12 ?_
    refine so_getA 35 3 fr_X11_191_4 rfl sh_35 fx_35_3 dX11_leap_15 ?_
    refine st_iload_n (i := 1) rfl rfl dX11_leap_18 ?_
    refine so_iald (v := (mem 38 x1)) 38 rfl sh_38 (by decide) (s2 h1) rfl dX11_leap_19 (fun r1 => ?_)
    refine st_goto 25 (by decide) dX11_leap_20 ?_
    exact st_ireturn rfl dX11_leap_25 (mQ.ret (q2 h1))
theorem cn_X11_stops {d : Nat} {P : Int → mmM → Prop} {mem : mmM} (h : mmT bX11_stops d 0 0 (mQ 0 P) 0 [(2, 0)] [] mS mem) : con 0 bX11_stops d [(2, 0)] mem P := mmC_of [(2, 0)] ok_X11_stops.2.2.2.2 rfl (Nat.le_of_ble_eq_true rfl) h
theorem bk_X11_stops_0 {d : Nat} {P : Int → mmM → Prop} {mem : mmM}
  (q1 : ¬ (mem 23 1) = 0 → P (wltF (mem 23 1) (mem 38) (-1)) mem)
  (q2 : (mem 23 1) = 0 → P (-1) mem)
  (hd2 : 2 ≤ d := by omega)
  (s1 : ¬ (mem 23 1) = 0 → 0 ≤ (mem 23 1) ∧ (mem 23 1) ≤ 24 := by intros; first | omega | assumption | solve_by_elim)
  : mmT bX11_stops d 0 0 (mQ 0 P) 0 [(2, 0)] [] mS mem := by
  refine st_aload_n (i := 0) rfl (t := 0) rfl (by decide) dX11_stops_0 ?_
  refine so_getA 0 4 fr_X11_42_10 rfl sh_0 fx_0_4 dX11_stops_1 ?_
  refine so_getI (v := (mem 23 1)) 23 1 fr_X11_135_8 rfl sh_23 rfl dX11_stops_4 (fun r1 => ?_)
  refine sr_if_ne 14 r1 (by decide) dX11_stops_7 (fun h1 => ?_) (fun h1 => ?_)
  · have h1 : ¬ (mem 23 1) = 0 := by omega
    refine st_aload_n (i := 0) rfl (t := 0) rfl (by decide) dX11_stops_14 ?_
    refine so_getA 0 5 fr_X11_51_10 rfl sh_0 fx_0_5 dX11_stops_15 ?_
    refine st_iconst dX11_stops_18 ?_
    refine st_callV (kc2 := 0) (ks2 := 0) (av := [(0, (-1))]) 35 4 mr_X11_254 ok_X4_whichLeapTo (c_X4_whichLeapTo mem (-1) (⟨by decide, by decide⟩) ((s1 h1))) rfl sh_35 ⟨_, rfl, rfl, by decide⟩ rfl rfl hd2 (Nat.le_refl 0) (Nat.le_refl 0) (Nat.le_of_ble_eq_true rfl) dX11_stops_19 (mQ.elim fun v1 m1 hp => ?_)
    obtain ⟨hpv, hpm⟩ := hp
    subst hpv
    have hpm := hpm.symm
    subst hpm
    exact st_ireturn rfl dX11_stops_22 (mQ.ret (q1 h1))
  · have h1 : (mem 23 1) = 0 := by omega
    refine st_iconst dX11_stops_10 ?_
    refine st_goto 22 (by decide) dX11_stops_11 ?_
    exact st_ireturn rfl dX11_stops_22 (mQ.ret (q2 h1))
theorem cn_X11_reword {d : Nat} {P : Int → mmM → Prop} {mem : mmM} {x1 : Int} (h : mmT bX11_reword d 0 0 (mQ 0 P) 0 [(2, 0), (0, x1)] [] mS mem) : con 0 bX11_reword d [(2, 0), (0, x1)] mem P := mmC_of [(2, 0), (0, x1)] ok_X11_reword.2.2.2.2 rfl (Nat.le_of_ble_eq_true rfl) h
theorem bk_X11_reword_0 {d : Nat} {P : Int → mmM → Prop} {mem : mmM} {x1 : Int}
  (q1 : (mem 23 1) = 0 → P (-1000000) mem)
  (q2 : ¬ (mem 23 1) = 0 → x1 < 0 → P (-1000000) mem)
  (q3 : ¬ (mem 23 1) = 0 → 0 ≤ x1 → x1 ≤ 1 → ¬ x1 = 0 → P (fwtF (mem 23 1) (mem 24) (mem 28)) mem)
  (q4 : ¬ (mem 23 1) = 0 → 0 ≤ x1 → x1 ≤ 1 → x1 = 0 → P (wtcF (mem 23 1) (mem 24) (mem 28)) mem)
  (q5 : ¬ (mem 23 1) = 0 → 0 ≤ x1 → 1 < x1 → P (-1000000) mem)
  (hd5 : 5 ≤ d := by omega)
  (s1 : ¬ (mem 23 1) = 0 → R32 x1 := by intros; first | omega | assumption | solve_by_elim)
  (s2 : ¬ (mem 23 1) = 0 → 0 ≤ x1 → x1 ≤ 1 → ¬ x1 = 0 → 0 ≤ (mem 23 1) ∧ (mem 23 1) ≤ 24 := by intros; first | omega | assumption | solve_by_elim)
  (s3 : ¬ (mem 23 1) = 0 → 0 ≤ x1 → x1 ≤ 1 → x1 = 0 → 0 ≤ (mem 23 1) ∧ (mem 23 1) ≤ 24 := by intros; first | omega | assumption | solve_by_elim)
  : mmT bX11_reword d 0 0 (mQ 0 P) 0 [(2, 0), (0, x1)] [] mS mem := by
  refine st_aload_n (i := 0) rfl (t := 0) rfl (by decide) dX11_reword_0 ?_
  refine so_getA 0 4 fr_X11_42_10 rfl sh_0 fx_0_4 dX11_reword_1 ?_
  refine so_getI (v := (mem 23 1)) 23 1 fr_X11_135_8 rfl sh_23 rfl dX11_reword_4 (fun r1 => ?_)
  refine sr_if_eq 19 r1 (by decide) dX11_reword_7 (fun h1 => ?_) (fun h1 => ?_)
  · have h1 : (mem 23 1) = 0 := by omega
    refine st_ldc cw_X11_194 dX11_reword_19 ?_
    exact st_ireturn rfl dX11_reword_21 (mQ.ret (q1 h1))
  · have h1 : ¬ (mem 23 1) = 0 := by omega
    refine st_iload_n (i := 1) rfl rfl dX11_reword_10 ?_
    refine sr_if_lt 19 (s1 h1) (by decide) dX11_reword_11 (fun h2 => ?_) (fun h2 => ?_)
    · have h2 : x1 < 0 := by omega
      refine st_ldc cw_X11_194 dX11_reword_19 ?_
      exact st_ireturn rfl dX11_reword_21 (mQ.ret (q2 h1 h2))
    · have h2 : 0 ≤ x1 := by omega
      refine st_iload_n (i := 1) rfl rfl dX11_reword_14 ?_
      refine st_iconst dX11_reword_15 ?_
      refine sr_icmp_le 22 (s1 h1) ⟨by decide, by decide⟩ (by decide) dX11_reword_16 (fun h3 => ?_) (fun h3 => ?_)
      · have h3 : x1 ≤ 1 := by omega
        refine st_iload_n (i := 1) rfl rfl dX11_reword_22 ?_
        refine sr_if_ne 36 (s1 h1) (by decide) dX11_reword_23 (fun h4 => ?_) (fun h4 => ?_)
        · have h4 : ¬ x1 = 0 := by omega
          refine st_aload_n (i := 0) rfl (t := 0) rfl (by decide) dX11_reword_36 ?_
          refine so_getA 0 4 fr_X11_42_10 rfl sh_0 fx_0_4 dX11_reword_37 ?_
          refine st_callV (kc2 := 0) (ks2 := 0) (av := []) 23 8 mr_X11_333 ok_X8_firstWordToChange (c_X8_firstWordToChange mem ((s2 h1 h2 h3 h4))) rfl sh_23 ⟨_, rfl, rfl, by decide⟩ rfl rfl hd5 (Nat.le_refl 0) (Nat.le_refl 0) (Nat.le_of_ble_eq_true rfl) dX11_reword_40 (mQ.elim fun v1 m1 hp => ?_)
          obtain ⟨hpv, hpm⟩ := hp
          subst hpv
          have hpm := hpm.symm
          subst hpm
          exact st_ireturn rfl dX11_reword_43 (mQ.ret (q3 h1 h2 h3 h4))
        · have h4 : x1 = 0 := by omega
          refine st_aload_n (i := 0) rfl (t := 0) rfl (by decide) dX11_reword_26 ?_
          refine so_getA 0 4 fr_X11_42_10 rfl sh_0 fx_0_4 dX11_reword_27 ?_
          refine st_callV (kc2 := 0) (ks2 := 0) (av := []) 23 8 mr_X11_330 ok_X8_wordsToChange (c_X8_wordsToChange mem ((s3 h1 h2 h3 h4))) rfl sh_23 ⟨_, rfl, rfl, by decide⟩ rfl rfl hd5 (Nat.le_refl 0) (Nat.le_refl 0) (Nat.le_of_ble_eq_true rfl) dX11_reword_30 (mQ.elim fun v2 m2 hp => ?_)
          obtain ⟨hpv, hpm⟩ := hp
          subst hpv
          have hpm := hpm.symm
          subst hpm
          refine st_goto 43 (by decide) dX11_reword_33 ?_
          exact st_ireturn rfl dX11_reword_43 (mQ.ret (q4 h1 h2 h3 h4))
      · have h3 : 1 < x1 := by omega
        refine st_ldc cw_X11_194 dX11_reword_19 ?_
        exact st_ireturn rfl dX11_reword_21 (mQ.ret (q5 h1 h2 h3))
theorem c_X11_leap (mem : mmM) (x1 : Int) (h1 : R32 x1) (hn : 0 ≤ mem 23 1 ∧ mem 23 1 ≤ 24) : con 0 bX11_leap 2 [(2, 0), (0, x1)] mem (fun v m => v = (if 0 ≤ x1 ∧ x1 < mem 23 1 then mem 38 x1 else -1000000) ∧ m = mem) := by
  refine cn_X11_leap (bk_X11_leap_0 (fun g => ⟨?_, rfl⟩) (fun g => ⟨?_, rfl⟩))
  · rw [if_neg g]
  · rw [if_pos g]
theorem c_X11_stops (mem : mmM) (hn : 0 ≤ mem 23 1 ∧ mem 23 1 ≤ 24) : con 0 bX11_stops 2 [(2, 0)] mem (fun v m => v = (if mem 23 1 = 0 then -1 else wltF (mem 23 1) (mem 38) (-1)) ∧ m = mem) := by
  refine cn_X11_stops (bk_X11_stops_0 (fun g => ⟨?_, rfl⟩) (fun g => ⟨?_, rfl⟩))
  · rw [if_neg g]
  · rw [if_pos g]
theorem c_X11_reword (mem : mmM) (x1 : Int) (h1 : R32 x1) (hn : 0 ≤ mem 23 1 ∧ mem 23 1 ≤ 24) : con 0 bX11_reword 5 [(2, 0), (0, x1)] mem (fun v m => v = (if mem 23 1 = 0 ∨ ¬ (0 ≤ x1 ∧ x1 ≤ 1) then -1000000 else if x1 = 0 then wtcF (mem 23 1) (mem 24) (mem 28) else fwtF (mem 23 1) (mem 24) (mem 28)) ∧ m = mem) := by
  refine cn_X11_reword (bk_X11_reword_0 ?_ ?_ ?_ ?_ ?_) <;> (intros; refine ⟨?_, rfl⟩; (repeat' split) <;> first | rfl | omega)