/-! the class's reads that only pass on -/
theorem cn_X11_leap {d : Nat} {P : Int → mmM → Prop} {mem : mmM} {x1 : Int} (h : mmT bX11_leap d 0 0 (mQ 0 P) 0 [(2, 0), (0, x1)] [] mS mem) : con 0 bX11_leap d [(2, 0), (0, x1)] mem P := mmC_of [(2, 0), (0, x1)] ok_X11_leap.2.2.2.2 rfl (Nat.le_of_ble_eq_true rfl) h
theorem bk_X11_leap_0 {d : Nat} {P : Int → mmM → Prop} {mem : mmM} {x1 : Int}
  (q1 : ¬ (0 ≤ x1 ∧ x1 < (mem 23 1)) → P (-1000000) mem)
  (q2 : (0 ≤ x1 ∧ x1 < (mem 23 1)) → P (mem 38 x1) mem)
  (hd2 : 2 ≤ d := by omega)
  (s1 : R32 x1 := by intros; first | omega | assumption | solve_by_elim)
  (s2 : (0 ≤ x1 ∧ x1 < (mem 23 1)) → 0 ≤ x1 ∧ x1 < 24 := by intros; first | omega | assumption | solve_by_elim)
  : mmT bX11_leap d 0 0 (mQ 0 P) 0 [(2, 0), (0, x1)] [] mS mem := by
  refine st_aload_n (i := 0) rfl (t := 0) rfl (by decide) dX11_leap_0 ?_
  refine so_getA 0 4 fr_X11_42_10 rfl sh_0 fx_0_4 dX11_leap_1 ?_
  refine st_iload_n (i := 1) rfl rfl dX11_leap_4 ?_
  refine st_callV (kc2 := 0) (ks2 := 0) (av := [(0, x1)]) 23 8 mr_X11_136 ok_X8_has (c_X8_has mem x1 (s1)) rfl sh_23 ⟨_, rfl, rfl, by decide⟩ rfl rfl hd2 (Nat.le_refl 0) (Nat.le_refl 0) (Nat.le_of_ble_eq_true rfl) dX11_leap_5 (mQ.elim fun v1 m1 hp => ?_)
  obtain ⟨hpv, hpm⟩ := hp
  subst hpv
  have hpm := hpm.symm
  subst hpm
  refine so_ifeqB 23 (by decide) dX11_leap_8 (fun h1 => ?_) (fun h1 => ?_)
  · have h1 : ¬ (0 ≤ x1 ∧ x1 < (mem 23 1)) := h1
    refine st_ldc cw_X11_194 dX11_leap_23 ?_
    exact st_ireturn rfl dX11_leap_25 (mQ.ret (q1 h1))
  · have h1 : (0 ≤ x1 ∧ x1 < (mem 23 1)) := h1
    refine st_aload_n (i := 0) rfl (t := 0) rfl (by decide) dX11_leap_11 ?_
    refine so_getA 0 5 fr_X11_51_10 rfl sh_0 fx_0_5 dX11_leap_12 ?_
    refine so_getA 35 3 fr_X11_191_4 rfl sh_35 fx_35_3 dX11_leap_15 ?_
    refine st_iload_n (i := 1) rfl rfl dX11_leap_18 ?_
    refine so_iald (v := (mem 38 x1)) 38 rfl sh_38 (by decide) (s2 h1) rfl dX11_leap_19 (fun r1 => ?_)
    refine st_goto 25 (by decide) dX11_leap_20 ?_
    exact st_ireturn rfl dX11_leap_25 (mQ.ret (q2 h1))
theorem cn_X11_stops {d : Nat} {P : Int → mmM → Prop} {mem : mmM} (h : mmT bX11_stops d 0 0 (mQ 0 P) 0 [(2, 0)] [] mS mem) : con 0 bX11_stops d [(2, 0)] mem P := mmC_of [(2, 0)] ok_X11_stops.2.2.2.2 rfl (Nat.le_of_ble_eq_true rfl) h
theorem bk_X11_stops_0 {d : Nat} {P : Int → mmM → Prop} {mem : mmM}
  (q1 : ¬ (mem 23 1) = 0 → P (wltF (mem 23 1) (mem 38) (-1)) mem)
  (q2 : (mem 23 1) = 0 → P (-1) mem)
  (hd2 : 2 ≤ d := by omega)
  (s1 : ¬ (mem 23 1) = 0 → 0 ≤ (mem 23 1) ∧ (mem 23 1) ≤ 24 := by intros; first | omega | assumption | solve_by_elim)
  : mmT bX11_stops d 0 0 (mQ 0 P) 0 [(2, 0)] [] mS mem := by
  refine st_aload_n (i := 0) rfl (t := 0) rfl (by decide) dX11_stops_0 ?_
  refine so_getA 0 4 fr_X11_42_10 rfl sh_0 fx_0_4 dX11_stops_1 ?_
  refine so_getI (v := (mem 23 1)) 23 1 fr_X11_135_8 rfl sh_23 rfl dX11_stops_4 (fun r1 => ?_)
  refine sr_if_ne 14 r1 (by decide) dX11_stops_7 (fun h1 => ?_) (fun h1 => ?_)
  · have h1 : ¬ (mem 23 1) = 0 := by omega
    refine st_aload_n (i := 0) rfl (t := 0) rfl (by decide) dX11_stops_14 ?_
    refine so_getA 0 5 fr_X11_51_10 rfl sh_0 fx_0_5 dX11_stops_15 ?_
    refine st_iconst dX11_stops_18 ?_
    refine st_callV (kc2 := 0) (ks2 := 0) (av := [(0, (-1))]) 35 4 mr_X11_254 ok_X4_whichLeapTo (c_X4_whichLeapTo mem (-1) (⟨by decide, by decide⟩) ((s1 h1))) rfl sh_35 ⟨_, rfl, rfl, by decide⟩ rfl rfl hd2 (Nat.le_refl 0) (Nat.le_refl 0) (Nat.le_of_ble_eq_true rfl) dX11_stops_19 (mQ.elim fun v1 m1 hp => ?_)
    obtain ⟨hpv, hpm⟩ := hp
    subst hpv
    have hpm := hpm.symm
    subst hpm
    exact st_ireturn rfl dX11_stops_22 (mQ.ret (q1 h1))
  · have h1 : (mem 23 1) = 0 := by omega
    refine st_iconst dX11_stops_10 ?_
    refine st_goto 22 (by decide) dX11_stops_11 ?_
    exact st_ireturn rfl dX11_stops_22 (mQ.ret (q2 h1))
theorem cn_X11_from {d : Nat} {P : Int → mmM → Prop} {mem : mmM} {x1 : Int} (h : mmT bX11_from d 0 0 (mQ 0 P) 0 [(2, 0), (0, x1)] [] mS mem) : con 0 bX11_from d [(2, 0), (0, x1)] mem P := mmC_of [(2, 0), (0, x1)] ok_X11_from.2.2.2.2 rfl (Nat.le_of_ble_eq_true rfl) h
theorem bk_X11_from_0 {d : Nat} {P : Int → mmM → Prop} {mem : mmM} {x1 : Int}
  (q1 : ¬ (0 ≤ x1 ∧ x1 < (mem 23 1)) → P (-1) mem)
  (q2 : (0 ≤ x1 ∧ x1 < (mem 23 1)) → P (wltF (mem 23 1) (mem 38) x1) mem)
  (hd2 : 2 ≤ d := by omega)
  (s1 : R32 x1 := by intros; first | omega | assumption | solve_by_elim)
  (s2 : (0 ≤ x1 ∧ x1 < (mem 23 1)) → 0 ≤ (mem 23 1) ∧ (mem 23 1) ≤ 24 := by intros; first | omega | assumption | solve_by_elim)
  : mmT bX11_from d 0 0 (mQ 0 P) 0 [(2, 0), (0, x1)] [] mS mem := by
  refine st_aload_n (i := 0) rfl (t := 0) rfl (by decide) dX11_from_0 ?_
  refine so_getA 0 4 fr_X11_42_10 rfl sh_0 fx_0_4 dX11_from_1 ?_
  refine st_iload_n (i := 1) rfl rfl dX11_from_4 ?_
  refine st_callV (kc2 := 0) (ks2 := 0) (av := [(0, x1)]) 23 8 mr_X11_136 ok_X8_has (c_X8_has mem x1 (s1)) rfl sh_23 ⟨_, rfl, rfl, by decide⟩ rfl rfl hd2 (Nat.le_refl 0) (Nat.le_refl 0) (Nat.le_of_ble_eq_true rfl) dX11_from_5 (mQ.elim fun v1 m1 hp => ?_)
  obtain ⟨hpv, hpm⟩ := hp
  subst hpv
  have hpm := hpm.symm
  subst hpm
  refine so_ifeqB 22 (by decide) dX11_from_8 (fun h1 => ?_) (fun h1 => ?_)
  · have h1 : ¬ (0 ≤ x1 ∧ x1 < (mem 23 1)) := h1
    refine st_iconst dX11_from_22 ?_
    exact st_ireturn rfl dX11_from_23 (mQ.ret (q1 h1))
  · have h1 : (0 ≤ x1 ∧ x1 < (mem 23 1)) := h1
    refine st_aload_n (i := 0) rfl (t := 0) rfl (by decide) dX11_from_11 ?_
    refine so_getA 0 5 fr_X11_51_10 rfl sh_0 fx_0_5 dX11_from_12 ?_
    refine st_iload_n (i := 1) rfl rfl dX11_from_15 ?_
    refine st_callV (kc2 := 0) (ks2 := 0) (av := [(0, x1)]) 35 4 mr_X11_254 ok_X4_whichLeapTo (c_X4_whichLeapTo mem x1 (s1) ((s2 h1))) rfl sh_35 ⟨_, rfl, rfl, by decide⟩ rfl rfl hd2 (Nat.le_refl 0) (Nat.le_refl 0) (Nat.le_of_ble_eq_true rfl) dX11_from_16 (mQ.elim fun v2 m2 hp => ?_)
    obtain ⟨hpv, hpm⟩ := hp
    subst hpv
    have hpm := hpm.symm
    subst hpm
    refine st_goto 23 (by decide) dX11_from_19 ?_
    exact st_ireturn rfl dX11_from_23 (mQ.ret (q2 h1))
theorem cn_X11_silence {d : Nat} {P : Int → mmM → Prop} {mem : mmM} {x1 : Int} (h : mmT bX11_silence d 0 0 (mQ 0 P) 0 [(2, 0), (0, x1)] [] mS mem) : con 0 bX11_silence d [(2, 0), (0, x1)] mem P := mmC_of [(2, 0), (0, x1)] ok_X11_silence.2.2.2.2 rfl (Nat.le_of_ble_eq_true rfl) h
theorem bk_X11_silence_0 {d : Nat} {d1 : Nat} {P1 : Int → mmM → Prop} {P : Int → mmM → Prop} {mem : mmM} {x1 : Int}
  (c1 : (0 ≤ x1 ∧ x1 < 8) → con 0 bX8_longestSilence d1 [(2, 23), (0, x1)] mem P1)
  (q1 : ¬ (0 ≤ x1 ∧ x1 < 8) → P (-1) mem)
  (q2 : (0 ≤ x1 ∧ x1 < 8) → ∀ (v2 : Int), ∀ (m2 : mmM), P1 v2 m2 → P v2 m2)
  (hd_d1 : d1 + 1 ≤ d := by omega)
  (hd2 : 2 ≤ d := by omega)
  (s1 : R32 x1 := by intros; first | omega | assumption | solve_by_elim)
  : mmT bX11_silence d 0 0 (mQ 0 P) 0 [(2, 0), (0, x1)] [] mS mem := by
  refine st_iload_n (i := 1) rfl rfl dX11_silence_0 ?_
  refine st_callS (kc2 := 0) (ks2 := 0) (av := [(0, x1)]) mr_X11_179 ok_X11_isActor (c_X11_isActor mem x1 (s1)) rfl rfl hd2 (Nat.le_refl 0) (Nat.le_refl 0) (Nat.le_of_ble_eq_true rfl) dX11_silence_1 (mQ.elim fun v1 m1 hp => ?_)
  obtain ⟨hpv, hpm⟩ := hp
  subst hpv
  have hpm := hpm.symm
  subst hpm
  refine so_ifeqB 18 (by decide) dX11_silence_4 (fun h1 => ?_) (fun h1 => ?_)
  · have h1 : ¬ (0 ≤ x1 ∧ x1 < 8) := h1
    refine st_iconst dX11_silence_18 ?_
    exact st_ireturn rfl dX11_silence_19 (mQ.ret (q1 h1))
  · have h1 : (0 ≤ x1 ∧ x1 < 8) := h1
    refine st_aload_n (i := 0) rfl (t := 0) rfl (by decide) dX11_silence_7 ?_
    refine so_getA 0 4 fr_X11_42_10 rfl sh_0 fx_0_4 dX11_silence_8 ?_
    refine st_iload_n (i := 1) rfl rfl dX11_silence_11 ?_
    refine st_callV (kc2 := 0) (ks2 := 0) (av := [(0, x1)]) 23 8 mr_X11_289 ok_X8_longestSilence (c1 h1) rfl sh_23 ⟨_, rfl, rfl, by decide⟩ rfl rfl hd_d1 (Nat.le_refl 0) (Nat.le_refl 0) (Nat.le_of_ble_eq_true rfl) dX11_silence_12 (mQ.elim fun v2 m2 p1 => ?_)
    refine st_goto 19 (by decide) dX11_silence_15 ?_
    exact st_ireturn rfl dX11_silence_19 (mQ.ret (q2 h1 v2 m2 p1))
theorem cn_X11_doubtful {d : Nat} {P : Int → mmM → Prop} {mem : mmM} {x1 : Int} (h : mmT bX11_doubtful d 0 0 (mQ 0 P) 0 [(2, 0), (0, x1)] [] mS mem) : con 0 bX11_doubtful d [(2, 0), (0, x1)] mem P := mmC_of [(2, 0), (0, x1)] ok_X11_doubtful.2.2.2.2 rfl (Nat.le_of_ble_eq_true rfl) h
theorem bk_X11_doubtful_0 {d : Nat} {d1 : Nat} {P1 : Int → mmM → Prop} {P : Int → mmM → Prop} {mem : mmM} {x1 : Int}
  (c1 : ¬ (mem 23 1) = 0 → (0 ≤ x1 ∧ x1 < 8) → con 0 bX8_doubtfulOf d1 [(2, 23), (0, x1)] mem P1)
  (q1 : (mem 23 1) = 0 → P (-1) mem)
  (q2 : ¬ (mem 23 1) = 0 → (0 ≤ x1 ∧ x1 < 8) → ∀ (v2 : Int), ∀ (m2 : mmM), P1 v2 m2 → P v2 m2)
  (q3 : ¬ (mem 23 1) = 0 → ¬ (0 ≤ x1 ∧ x1 < 8) → P (-1) mem)
  (hd_d1 : d1 + 1 ≤ d := by omega)
  (hd2 : 2 ≤ d := by omega)
  (s1 : ¬ (mem 23 1) = 0 → R32 x1 := by intros; first | omega | assumption | solve_by_elim)
  : mmT bX11_doubtful d 0 0 (mQ 0 P) 0 [(2, 0), (0, x1)] [] mS mem := by
  refine st_aload_n (i := 0) rfl (t := 0) rfl (by decide) dX11_doubtful_0 ?_
  refine so_getA 0 4 fr_X11_42_10 rfl sh_0 fx_0_4 dX11_doubtful_1 ?_
  refine so_getI (v := (mem 23 1)) 23 1 fr_X11_135_8 rfl sh_23 rfl dX11_doubtful_4 (fun r1 => ?_)
  refine sr_if_eq 17 r1 (by decide) dX11_doubtful_7 (fun h1 => ?_) (fun h1 => ?_)
  · have h1 : (mem 23 1) = 0 := by omega
    refine st_iconst dX11_doubtful_17 ?_
    refine st_goto 29 (by decide) dX11_doubtful_18 ?_
    exact st_ireturn rfl dX11_doubtful_29 (mQ.ret (q1 h1))
  · have h1 : ¬ (mem 23 1) = 0 := by omega
    refine st_iload_n (i := 1) rfl rfl dX11_doubtful_10 ?_
    refine st_callS (kc2 := 0) (ks2 := 0) (av := [(0, x1)]) mr_X11_179 ok_X11_isActor (c_X11_isActor mem x1 ((s1 h1))) rfl rfl hd2 (Nat.le_refl 0) (Nat.le_refl 0) (Nat.le_of_ble_eq_true rfl) dX11_doubtful_11 (mQ.elim fun v1 m1 hp => ?_)
    obtain ⟨hpv, hpm⟩ := hp
    subst hpv
    have hpm := hpm.symm
    subst hpm
    refine so_ifneB 21 (by decide) dX11_doubtful_14 (fun h2 => ?_) (fun h2 => ?_)
    · have h2 : (0 ≤ x1 ∧ x1 < 8) := h2
      refine st_aload_n (i := 0) rfl (t := 0) rfl (by decide) dX11_doubtful_21 ?_
      refine so_getA 0 4 fr_X11_42_10 rfl sh_0 fx_0_4 dX11_doubtful_22 ?_
      refine st_iload_n (i := 1) rfl rfl dX11_doubtful_25 ?_
      refine st_callV (kc2 := 0) (ks2 := 0) (av := [(0, x1)]) 23 8 mr_X11_327 ok_X8_doubtfulOf (c1 h1 h2) rfl sh_23 ⟨_, rfl, rfl, by decide⟩ rfl rfl hd_d1 (Nat.le_refl 0) (Nat.le_refl 0) (Nat.le_of_ble_eq_true rfl) dX11_doubtful_26 (mQ.elim fun v2 m2 p1 => ?_)
      exact st_ireturn rfl dX11_doubtful_29 (mQ.ret (q2 h1 h2 v2 m2 p1))
    · have h2 : ¬ (0 ≤ x1 ∧ x1 < 8) := h2
      refine st_iconst dX11_doubtful_17 ?_
      refine st_goto 29 (by decide) dX11_doubtful_18 ?_
      exact st_ireturn rfl dX11_doubtful_29 (mQ.ret (q3 h1 h2))
theorem cn_X11_reword {d : Nat} {P : Int → mmM → Prop} {mem : mmM} {x1 : Int} (h : mmT bX11_reword d 0 0 (mQ 0 P) 0 [(2, 0), (0, x1)] [] mS mem) : con 0 bX11_reword d [(2, 0), (0, x1)] mem P := mmC_of [(2, 0), (0, x1)] ok_X11_reword.2.2.2.2 rfl (Nat.le_of_ble_eq_true rfl) h
theorem bk_X11_reword_0 {d : Nat} {P : Int → mmM → Prop} {mem : mmM} {x1 : Int}
  (q1 : (mem 23 1) = 0 → P (-1000000) mem)
  (q2 : ¬ (mem 23 1) = 0 → x1 < 0 → P (-1000000) mem)
  (q3 : ¬ (mem 23 1) = 0 → 0 ≤ x1 → x1 ≤ 1 → ¬ x1 = 0 → P (fwtF (mem 23 1) (mem 24) (mem 28)) mem)
  (q4 : ¬ (mem 23 1) = 0 → 0 ≤ x1 → x1 ≤ 1 → x1 = 0 → P (wtcF (mem 23 1) (mem 24) (mem 28)) mem)
  (q5 : ¬ (mem 23 1) = 0 → 0 ≤ x1 → 1 < x1 → P (-1000000) mem)
  (hd5 : 5 ≤ d := by omega)
  (s1 : ¬ (mem 23 1) = 0 → R32 x1 := by intros; first | omega | assumption | solve_by_elim)
  (s2 : ¬ (mem 23 1) = 0 → 0 ≤ x1 → x1 ≤ 1 → ¬ x1 = 0 → 0 ≤ (mem 23 1) ∧ (mem 23 1) ≤ 24 := by intros; first | omega | assumption | solve_by_elim)
  (s3 : ¬ (mem 23 1) = 0 → 0 ≤ x1 → x1 ≤ 1 → x1 = 0 → 0 ≤ (mem 23 1) ∧ (mem 23 1) ≤ 24 := by intros; first | omega | assumption | solve_by_elim)
  : mmT bX11_reword d 0 0 (mQ 0 P) 0 [(2, 0), (0, x1)] [] mS mem := by
  refine st_aload_n (i := 0) rfl (t := 0) rfl (by decide) dX11_reword_0 ?_
  refine so_getA 0 4 fr_X11_42_10 rfl sh_0 fx_0_4 dX11_reword_1 ?_
  refine so_getI (v := (mem 23 1)) 23 1 fr_X11_135_8 rfl sh_23 rfl dX11_reword_4 (fun r1 => ?_)
  refine sr_if_eq 19 r1 (by decide) dX11_reword_7 (fun h1 => ?_) (fun h1 => ?_)
  · have h1 : (mem 23 1) = 0 := by omega
    refine st_ldc cw_X11_194 dX11_reword_19 ?_
    exact st_ireturn rfl dX11_reword_21 (mQ.ret (q1 h1))
  · have h1 : ¬ (mem 23 1) = 0 := by omega
    refine st_iload_n (i := 1) rfl rfl dX11_reword_10 ?_
    refine sr_if_lt 19 (s1 h1) (by decide) dX11_reword_11 (fun h2 => ?_) (fun h2 => ?_)
    · have h2 : x1 < 0 := by omega
      refine st_ldc cw_X11_194 dX11_reword_19 ?_
      exact st_ireturn rfl dX11_reword_21 (mQ.ret (q2 h1 h2))
    · have h2 : 0 ≤ x1 := by omega
      refine st_iload_n (i := 1) rfl rfl dX11_reword_14 ?_
      refine st_iconst dX11_reword_15 ?_
      refine sr_icmp_le 22 (s1 h1) ⟨by decide, by decide⟩ (by decide) dX11_reword_16 (fun h3 => ?_) (fun h3 => ?_)
      · have h3 : x1 ≤ 1 := by omega
        refine st_iload_n (i := 1) rfl rfl dX11_reword_22 ?_
        refine sr_if_ne 36 (s1 h1) (by decide) dX11_reword_23 (fun h4 => ?_) (fun h4 => ?_)
        · have h4 : ¬ x1 = 0 := by omega
          refine st_aload_n (i := 0) rfl (t := 0) rfl (by decide) dX11_reword_36 ?_
          refine so_getA 0 4 fr_X11_42_10 rfl sh_0 fx_0_4 dX11_reword_37 ?_
          refine st_callV (kc2 := 0) (ks2 := 0) (av := []) 23 8 mr_X11_333 ok_X8_firstWordToChange (c_X8_firstWordToChange mem ((s2 h1 h2 h3 h4))) rfl sh_23 ⟨_, rfl, rfl, by decide⟩ rfl rfl hd5 (Nat.le_refl 0) (Nat.le_refl 0) (Nat.le_of_ble_eq_true rfl) dX11_reword_40 (mQ.elim fun v1 m1 hp => ?_)
          obtain ⟨hpv, hpm⟩ := hp
          subst hpv
          have hpm := hpm.symm
          subst hpm
          exact st_ireturn rfl dX11_reword_43 (mQ.ret (q3 h1 h2 h3 h4))
        · have h4 : x1 = 0 := by omega
          refine st_aload_n (i := 0) rfl (t := 0) rfl (by decide) dX11_reword_26 ?_
          refine so_getA 0 4 fr_X11_42_10 rfl sh_0 fx_0_4 dX11_reword_27 ?_
          refine st_callV (kc2 := 0) (ks2 := 0) (av := []) 23 8 mr_X11_330 ok_X8_wordsToChange (c_X8_wordsToChange mem ((s3 h1 h2 h3 h4))) rfl sh_23 ⟨_, rfl, rfl, by decide⟩ rfl rfl hd5 (Nat.le_refl 0) (Nat.le_refl 0) (Nat.le_of_ble_eq_true rfl) dX11_reword_30 (mQ.elim fun v2 m2 hp => ?_)
          obtain ⟨hpv, hpm⟩ := hp
          subst hpv
          have hpm := hpm.symm
          subst hpm
          refine st_goto 43 (by decide) dX11_reword_33 ?_
          exact st_ireturn rfl dX11_reword_43 (mQ.ret (q4 h1 h2 h3 h4))
      · have h3 : 1 < x1 := by omega
        refine st_ldc cw_X11_194 dX11_reword_19 ?_
        exact st_ireturn rfl dX11_reword_21 (mQ.ret (q5 h1 h2 h3))
theorem c_X11_leap (mem : mmM) (x1 : Int) (h1 : R32 x1) (hn : 0 ≤ mem 23 1 ∧ mem 23 1 ≤ 24) : con 0 bX11_leap 2 [(2, 0), (0, x1)] mem (fun v m => v = (if 0 ≤ x1 ∧ x1 < mem 23 1 then mem 38 x1 else -1000000) ∧ m = mem) := by
  refine cn_X11_leap (bk_X11_leap_0 (fun g => ⟨?_, rfl⟩) (fun g => ⟨?_, rfl⟩))
  · rw [if_neg g]
  · rw [if_pos g]
theorem c_X11_stops (mem : mmM) (hn : 0 ≤ mem 23 1 ∧ mem 23 1 ≤ 24) : con 0 bX11_stops 2 [(2, 0)] mem (fun v m => v = (if mem 23 1 = 0 then -1 else wltF (mem 23 1) (mem 38) (-1)) ∧ m = mem) := by
  refine cn_X11_stops (bk_X11_stops_0 (fun g => ⟨?_, rfl⟩) (fun g => ⟨?_, rfl⟩))
  · rw [if_neg g]
  · rw [if_pos g]
theorem c_X11_from (mem : mmM) (x1 : Int) (h1 : R32 x1) (hn : 0 ≤ mem 23 1 ∧ mem 23 1 ≤ 24) : con 0 bX11_from 2 [(2, 0), (0, x1)] mem (fun v m => v = (if 0 ≤ x1 ∧ x1 < mem 23 1 then wltF (mem 23 1) (mem 38) x1 else -1) ∧ m = mem) := by
  refine cn_X11_from (bk_X11_from_0 (fun g => ⟨?_, rfl⟩) (fun g => ⟨?_, rfl⟩))
  · rw [if_neg g]
  · rw [if_pos g]
theorem c_X11_silence (mem : mmM) (x1 : Int) (h1 : R32 x1) (hn : 0 ≤ mem 23 1 ∧ mem 23 1 ≤ 24) (hl : ∀ i, 0 ≤ i → i < mem 23 1 → 1 ≤ mem 26 i ∧ mem 26 i ≤ 99) : con 0 bX11_silence 2 [(2, 0), (0, x1)] mem (fun v m => v = (if 0 ≤ x1 ∧ x1 < 8 then silF (mem 23 1) (mem 24) (mem 26) x1 else -1) ∧ m = mem) := by
  refine cn_X11_silence (bk_X11_silence_0 (fun g => c_X8_longestSilence mem x1 h1 hn hl) (fun g => ⟨?_, rfl⟩) (fun g v m q => ⟨?_, q.2⟩))
  · rw [if_neg g]
  · rw [if_pos g]
    exact q.1
theorem c_X11_doubtful (mem : mmM) (x1 : Int) (h1 : R32 x1) (hn : 0 ≤ mem 23 1 ∧ mem 23 1 ≤ 24) : con 0 bX11_doubtful 2 [(2, 0), (0, x1)] mem (fun v m => v = (if mem 23 1 = 0 ∨ ¬ (0 ≤ x1 ∧ x1 < 8) then -1 else dbtF (mem 23 1) (mem 24) (mem 30) x1) ∧ m = mem) := by
  refine cn_X11_doubtful (bk_X11_doubtful_0 (fun g g2 => c_X8_doubtfulOf mem x1 h1 hn) (fun g => ⟨?_, rfl⟩) (fun g g2 v m q => ⟨?_, q.2⟩) (fun g g2 => ⟨?_, rfl⟩))
  · rw [if_pos (Or.inl g)]
  · rw [if_neg (by omega)]
    exact q.1
  · rw [if_pos (Or.inr g2)]
theorem c_X11_reword (mem : mmM) (x1 : Int) (h1 : R32 x1) (hn : 0 ≤ mem 23 1 ∧ mem 23 1 ≤ 24) : con 0 bX11_reword 5 [(2, 0), (0, x1)] mem (fun v m => v = (if mem 23 1 = 0 ∨ ¬ (0 ≤ x1 ∧ x1 ≤ 1) then -1000000 else if x1 = 0 then wtcF (mem 23 1) (mem 24) (mem 28) else fwtF (mem 23 1) (mem 24) (mem 28)) ∧ m = mem) := by
  refine cn_X11_reword (bk_X11_reword_0 ?_ ?_ ?_ ?_ ?_) <;> (intros; refine ⟨?_, rfl⟩; (repeat' split) <;> first | rfl | omega)
theorem cn_X11_loop {d : Nat} {P : Int → mmM → Prop} {mem : mmM} {x1 : Int} (h : mmT bX11_loop d 0 0 (mQ 0 P) 0 [(2, 0), (0, x1)] [] mS mem) : con 0 bX11_loop d [(2, 0), (0, x1)] mem P := mmC_of [(2, 0), (0, x1)] ok_X11_loop.2.2.2.2 rfl (Nat.le_of_ble_eq_true rfl) h
theorem bk_X11_loop_0 {d : Nat} {P : Int → mmM → Prop} {mem : mmM} {x1 : Int}
  (q1 : x1 = 0 → ¬ x1 = 0 → P (if (0 : Int) = 0 then (loopF (mem 23 1) (mem 38)).2 else (loopF (mem 23 1) (mem 38)).1) mem)
  (q2 : x1 = 0 → x1 = 0 → P (if (1 : Int) = 0 then (loopF (mem 23 1) (mem 38)).2 else (loopF (mem 23 1) (mem 38)).1) mem)
  (q3 : ¬ x1 = 0 → ¬ x1 = 1 → P (-1) mem)
  (q4 : ¬ x1 = 0 → x1 = 1 → ¬ x1 = 0 → P (if (0 : Int) = 0 then (loopF (mem 23 1) (mem 38)).2 else (loopF (mem 23 1) (mem 38)).1) mem)
  (q5 : ¬ x1 = 0 → x1 = 1 → x1 = 0 → P (if (1 : Int) = 0 then (loopF (mem 23 1) (mem 38)).2 else (loopF (mem 23 1) (mem 38)).1) mem)
  (hd2 : 2 ≤ d := by omega)
  (s1 : R32 x1 := by intros; first | omega | assumption | solve_by_elim)
  (s2 : x1 = 0 → ¬ x1 = 0 → (0 : Int) = 0 ∨ (0 : Int) = 1 := by intros; first | omega | assumption | solve_by_elim)
  (s3 : x1 = 0 → ¬ x1 = 0 → 0 ≤ (mem 23 1) ∧ (mem 23 1) ≤ 24 := by intros; first | omega | assumption | solve_by_elim)
  (s4 : x1 = 0 → ¬ x1 = 0 → ∀ i, 0 ≤ i → i < (mem 23 1) → -1 ≤ (mem 38 i) ∧ (mem 38 i) < (mem 23 1) := by intros; first | omega | assumption | solve_by_elim)
  (s5 : x1 = 0 → x1 = 0 → (1 : Int) = 0 ∨ (1 : Int) = 1 := by intros; first | omega | assumption | solve_by_elim)
  (s6 : x1 = 0 → x1 = 0 → 0 ≤ (mem 23 1) ∧ (mem 23 1) ≤ 24 := by intros; first | omega | assumption | solve_by_elim)
  (s7 : x1 = 0 → x1 = 0 → ∀ i, 0 ≤ i → i < (mem 23 1) → -1 ≤ (mem 38 i) ∧ (mem 38 i) < (mem 23 1) := by intros; first | omega | assumption | solve_by_elim)
  (s8 : ¬ x1 = 0 → x1 = 1 → ¬ x1 = 0 → (0 : Int) = 0 ∨ (0 : Int) = 1 := by intros; first | omega | assumption | solve_by_elim)
  (s9 : ¬ x1 = 0 → x1 = 1 → ¬ x1 = 0 → 0 ≤ (mem 23 1) ∧ (mem 23 1) ≤ 24 := by intros; first | omega | assumption | solve_by_elim)
  (s10 : ¬ x1 = 0 → x1 = 1 → ¬ x1 = 0 → ∀ i, 0 ≤ i → i < (mem 23 1) → -1 ≤ (mem 38 i) ∧ (mem 38 i) < (mem 23 1) := by intros; first | omega | assumption | solve_by_elim)
  (s11 : ¬ x1 = 0 → x1 = 1 → x1 = 0 → (1 : Int) = 0 ∨ (1 : Int) = 1 := by intros; first | omega | assumption | solve_by_elim)
  (s12 : ¬ x1 = 0 → x1 = 1 → x1 = 0 → 0 ≤ (mem 23 1) ∧ (mem 23 1) ≤ 24 := by intros; first | omega | assumption | solve_by_elim)
  (s13 : ¬ x1 = 0 → x1 = 1 → x1 = 0 → ∀ i, 0 ≤ i → i < (mem 23 1) → -1 ≤ (mem 38 i) ∧ (mem 38 i) < (mem 23 1) := by intros; first | omega | assumption | solve_by_elim)
  : mmT bX11_loop d 0 0 (mQ 0 P) 0 [(2, 0), (0, x1)] [] mS mem := by
  refine st_iload_n (i := 1) rfl rfl dX11_loop_0 ?_
  refine sr_if_eq 9 s1 (by decide) dX11_loop_1 (fun h1 => ?_) (fun h1 => ?_)
  · have h1 : x1 = 0 := by omega
    refine st_aload_n (i := 0) rfl (t := 0) rfl (by decide) dX11_loop_9 ?_
    refine so_getA 0 5 fr_X11_51_10 rfl sh_0 fx_0_5 dX11_loop_10 ?_
    refine st_iload_n (i := 1) rfl rfl dX11_loop_13 ?_
    refine sr_if_ne 21 s1 (by decide) dX11_loop_14 (fun h2 => ?_) (fun h2 => ?_)
    · have h2 : ¬ x1 = 0 := by omega
      refine st_iconst dX11_loop_21 ?_
      refine st_callV (kc2 := 0) (ks2 := 0) (av := [(0, 0)]) 35 4 mr_X11_247 ok_X4_shortestLoop (c_X4_shortestLoop mem 0 ((s2 h1 h2)) ((s3 h1 h2)) ((s4 h1 h2))) rfl sh_35 ⟨_, rfl, rfl, by decide⟩ rfl rfl hd2 (Nat.le_refl 0) (Nat.le_refl 0) (Nat.le_of_ble_eq_true rfl) dX11_loop_22 (mQ.elim fun v1 m1 hp => ?_)
      obtain ⟨hpv, hpm⟩ := hp
      subst hpv
      have hpm := hpm.symm
      subst hpm
      refine st_goto 29 (by decide) dX11_loop_25 ?_
      exact st_ireturn rfl dX11_loop_29 (mQ.ret (q1 h1 h2))
    · have h2 : x1 = 0 := by omega
      refine st_iconst dX11_loop_17 ?_
      refine st_goto 22 (by decide) dX11_loop_18 ?_
      refine st_callV (kc2 := 0) (ks2 := 0) (av := [(0, 1)]) 35 4 mr_X11_247 ok_X4_shortestLoop (c_X4_shortestLoop mem 1 ((s5 h1 h2)) ((s6 h1 h2)) ((s7 h1 h2))) rfl sh_35 ⟨_, rfl, rfl, by decide⟩ rfl rfl hd2 (Nat.le_refl 0) (Nat.le_refl 0) (Nat.le_of_ble_eq_true rfl) dX11_loop_22 (mQ.elim fun v2 m2 hp => ?_)
      obtain ⟨hpv, hpm⟩ := hp
      subst hpv
      have hpm := hpm.symm
      subst hpm
      refine st_goto 29 (by decide) dX11_loop_25 ?_
      exact st_ireturn rfl dX11_loop_29 (mQ.ret (q2 h1 h2))
  · have h1 : ¬ x1 = 0 := by omega
    refine st_iload_n (i := 1) rfl rfl dX11_loop_4 ?_
    refine st_iconst dX11_loop_5 ?_
    refine sr_icmp_ne 28 s1 ⟨by decide, by decide⟩ (by decide) dX11_loop_6 (fun h3 => ?_) (fun h3 => ?_)
    · have h3 : ¬ x1 = 1 := by omega
      refine st_iconst dX11_loop_28 ?_
      exact st_ireturn rfl dX11_loop_29 (mQ.ret (q3 h1 h3))
    · have h3 : x1 = 1 := by omega
      refine st_aload_n (i := 0) rfl (t := 0) rfl (by decide) dX11_loop_9 ?_
      refine so_getA 0 5 fr_X11_51_10 rfl sh_0 fx_0_5 dX11_loop_10 ?_
      refine st_iload_n (i := 1) rfl rfl dX11_loop_13 ?_
      refine sr_if_ne 21 s1 (by decide) dX11_loop_14 (fun h4 => ?_) (fun h4 => ?_)
      · have h4 : ¬ x1 = 0 := by omega
        refine st_iconst dX11_loop_21 ?_
        refine st_callV (kc2 := 0) (ks2 := 0) (av := [(0, 0)]) 35 4 mr_X11_247 ok_X4_shortestLoop (c_X4_shortestLoop mem 0 ((s8 h1 h3 h4)) ((s9 h1 h3 h4)) ((s10 h1 h3 h4))) rfl sh_35 ⟨_, rfl, rfl, by decide⟩ rfl rfl hd2 (Nat.le_refl 0) (Nat.le_refl 0) (Nat.le_of_ble_eq_true rfl) dX11_loop_22 (mQ.elim fun v3 m3 hp => ?_)
        obtain ⟨hpv, hpm⟩ := hp
        subst hpv
        have hpm := hpm.symm
        subst hpm
        refine st_goto 29 (by decide) dX11_loop_25 ?_
        exact st_ireturn rfl dX11_loop_29 (mQ.ret (q4 h1 h3 h4))
      · have h4 : x1 = 0 := by omega
        refine st_iconst dX11_loop_17 ?_
        refine st_goto 22 (by decide) dX11_loop_18 ?_
        refine st_callV (kc2 := 0) (ks2 := 0) (av := [(0, 1)]) 35 4 mr_X11_247 ok_X4_shortestLoop (c_X4_shortestLoop mem 1 ((s11 h1 h3 h4)) ((s12 h1 h3 h4)) ((s13 h1 h3 h4))) rfl sh_35 ⟨_, rfl, rfl, by decide⟩ rfl rfl hd2 (Nat.le_refl 0) (Nat.le_refl 0) (Nat.le_of_ble_eq_true rfl) dX11_loop_22 (mQ.elim fun v4 m4 hp => ?_)
        obtain ⟨hpv, hpm⟩ := hp
        subst hpv
        have hpm := hpm.symm
        subst hpm
        refine st_goto 29 (by decide) dX11_loop_25 ?_
        exact st_ireturn rfl dX11_loop_29 (mQ.ret (q5 h1 h3 h4))
theorem cn_X11_hole {d : Nat} {P : Int → mmM → Prop} {mem : mmM} {x1 : Int} (h : mmT bX11_hole d 0 0 (mQ 0 P) 0 [(2, 0), (0, x1)] [] mS mem) : con 0 bX11_hole d [(2, 0), (0, x1)] mem P := mmC_of [(2, 0), (0, x1)] ok_X11_hole.2.2.2.2 rfl (Nat.le_of_ble_eq_true rfl) h
theorem bk_X11_hole_0 {d : Nat} {P : Int → mmM → Prop} {mem : mmM} {x1 : Int}
  (q1 : x1 = 0 → ¬ x1 = 0 → P (if (0 : Int) = 0 then (holeF (mem 23 1) (mem 38)).2 else (holeF (mem 23 1) (mem 38)).1) mem)
  (q2 : x1 = 0 → x1 = 0 → P (if (1 : Int) = 0 then (holeF (mem 23 1) (mem 38)).2 else (holeF (mem 23 1) (mem 38)).1) mem)
  (q3 : ¬ x1 = 0 → ¬ x1 = 1 → P (-1) mem)
  (q4 : ¬ x1 = 0 → x1 = 1 → ¬ x1 = 0 → P (if (0 : Int) = 0 then (holeF (mem 23 1) (mem 38)).2 else (holeF (mem 23 1) (mem 38)).1) mem)
  (q5 : ¬ x1 = 0 → x1 = 1 → x1 = 0 → P (if (1 : Int) = 0 then (holeF (mem 23 1) (mem 38)).2 else (holeF (mem 23 1) (mem 38)).1) mem)
  (hd2 : 2 ≤ d := by omega)
  (s1 : R32 x1 := by intros; first | omega | assumption | solve_by_elim)
  (s2 : x1 = 0 → ¬ x1 = 0 → (0 : Int) = 0 ∨ (0 : Int) = 1 := by intros; first | omega | assumption | solve_by_elim)
  (s3 : x1 = 0 → ¬ x1 = 0 → 0 ≤ (mem 23 1) ∧ (mem 23 1) ≤ 24 := by intros; first | omega | assumption | solve_by_elim)
  (s4 : x1 = 0 → ¬ x1 = 0 → ∀ i, 0 ≤ i → i < (mem 23 1) → -1 ≤ (mem 38 i) ∧ (mem 38 i) < (mem 23 1) := by intros; first | omega | assumption | solve_by_elim)
  (s5 : x1 = 0 → x1 = 0 → (1 : Int) = 0 ∨ (1 : Int) = 1 := by intros; first | omega | assumption | solve_by_elim)
  (s6 : x1 = 0 → x1 = 0 → 0 ≤ (mem 23 1) ∧ (mem 23 1) ≤ 24 := by intros; first | omega | assumption | solve_by_elim)
  (s7 : x1 = 0 → x1 = 0 → ∀ i, 0 ≤ i → i < (mem 23 1) → -1 ≤ (mem 38 i) ∧ (mem 38 i) < (mem 23 1) := by intros; first | omega | assumption | solve_by_elim)
  (s8 : ¬ x1 = 0 → x1 = 1 → ¬ x1 = 0 → (0 : Int) = 0 ∨ (0 : Int) = 1 := by intros; first | omega | assumption | solve_by_elim)
  (s9 : ¬ x1 = 0 → x1 = 1 → ¬ x1 = 0 → 0 ≤ (mem 23 1) ∧ (mem 23 1) ≤ 24 := by intros; first | omega | assumption | solve_by_elim)
  (s10 : ¬ x1 = 0 → x1 = 1 → ¬ x1 = 0 → ∀ i, 0 ≤ i → i < (mem 23 1) → -1 ≤ (mem 38 i) ∧ (mem 38 i) < (mem 23 1) := by intros; first | omega | assumption | solve_by_elim)
  (s11 : ¬ x1 = 0 → x1 = 1 → x1 = 0 → (1 : Int) = 0 ∨ (1 : Int) = 1 := by intros; first | omega | assumption | solve_by_elim)
  (s12 : ¬ x1 = 0 → x1 = 1 → x1 = 0 → 0 ≤ (mem 23 1) ∧ (mem 23 1) ≤ 24 := by intros; first | omega | assumption | solve_by_elim)
  (s13 : ¬ x1 = 0 → x1 = 1 → x1 = 0 → ∀ i, 0 ≤ i → i < (mem 23 1) → -1 ≤ (mem 38 i) ∧ (mem 38 i) < (mem 23 1) := by intros; first | omega | assumption | solve_by_elim)
  : mmT bX11_hole d 0 0 (mQ 0 P) 0 [(2, 0), (0, x1)] [] mS mem := by
  refine st_iload_n (i := 1) rfl rfl dX11_hole_0 ?_
  refine sr_if_eq 9 s1 (by decide) dX11_hole_1 (fun h1 => ?_) (fun h1 => ?_)
  · have h1 : x1 = 0 := by omega
    refine st_aload_n (i := 0) rfl (t := 0) rfl (by decide) dX11_hole_9 ?_
    refine so_getA 0 5 fr_X11_51_10 rfl sh_0 fx_0_5 dX11_hole_10 ?_
    refine st_iload_n (i := 1) rfl rfl dX11_hole_13 ?_
    refine sr_if_ne 21 s1 (by decide) dX11_hole_14 (fun h2 => ?_) (fun h2 => ?_)
    · have h2 : ¬ x1 = 0 := by omega
      refine st_iconst dX11_hole_21 ?_
      refine st_callV (kc2 := 0) (ks2 := 0) (av := [(0, 0)]) 35 4 mr_X11_251 ok_X4_longestHole (c_X4_longestHole mem 0 ((s2 h1 h2)) ((s3 h1 h2)) ((s4 h1 h2))) rfl sh_35 ⟨_, rfl, rfl, by decide⟩ rfl rfl hd2 (Nat.le_refl 0) (Nat.le_refl 0) (Nat.le_of_ble_eq_true rfl) dX11_hole_22 (mQ.elim fun v1 m1 hp => ?_)
      obtain ⟨hpv, hpm⟩ := hp
      subst hpv
      have hpm := hpm.symm
      subst hpm
      refine st_goto 29 (by decide) dX11_hole_25 ?_
      exact st_ireturn rfl dX11_hole_29 (mQ.ret (q1 h1 h2))
    · have h2 : x1 = 0 := by omega
      refine st_iconst dX11_hole_17 ?_
      refine st_goto 22 (by decide) dX11_hole_18 ?_
      refine st_callV (kc2 := 0) (ks2 := 0) (av := [(0, 1)]) 35 4 mr_X11_251 ok_X4_longestHole (c_X4_longestHole mem 1 ((s5 h1 h2)) ((s6 h1 h2)) ((s7 h1 h2))) rfl sh_35 ⟨_, rfl, rfl, by decide⟩ rfl rfl hd2 (Nat.le_refl 0) (Nat.le_refl 0) (Nat.le_of_ble_eq_true rfl) dX11_hole_22 (mQ.elim fun v2 m2 hp => ?_)
      obtain ⟨hpv, hpm⟩ := hp
      subst hpv
      have hpm := hpm.symm
      subst hpm
      refine st_goto 29 (by decide) dX11_hole_25 ?_
      exact st_ireturn rfl dX11_hole_29 (mQ.ret (q2 h1 h2))
  · have h1 : ¬ x1 = 0 := by omega
    refine st_iload_n (i := 1) rfl rfl dX11_hole_4 ?_
    refine st_iconst dX11_hole_5 ?_
    refine sr_icmp_ne 28 s1 ⟨by decide, by decide⟩ (by decide) dX11_hole_6 (fun h3 => ?_) (fun h3 => ?_)
    · have h3 : ¬ x1 = 1 := by omega
      refine st_iconst dX11_hole_28 ?_
      exact st_ireturn rfl dX11_hole_29 (mQ.ret (q3 h1 h3))
    · have h3 : x1 = 1 := by omega
      refine st_aload_n (i := 0) rfl (t := 0) rfl (by decide) dX11_hole_9 ?_
      refine so_getA 0 5 fr_X11_51_10 rfl sh_0 fx_0_5 dX11_hole_10 ?_
      refine st_iload_n (i := 1) rfl rfl dX11_hole_13 ?_
      refine sr_if_ne 21 s1 (by decide) dX11_hole_14 (fun h4 => ?_) (fun h4 => ?_)
      · have h4 : ¬ x1 = 0 := by omega
        refine st_iconst dX11_hole_21 ?_
        refine st_callV (kc2 := 0) (ks2 := 0) (av := [(0, 0)]) 35 4 mr_X11_251 ok_X4_longestHole (c_X4_longestHole mem 0 ((s8 h1 h3 h4)) ((s9 h1 h3 h4)) ((s10 h1 h3 h4))) rfl sh_35 ⟨_, rfl, rfl, by decide⟩ rfl rfl hd2 (Nat.le_refl 0) (Nat.le_refl 0) (Nat.le_of_ble_eq_true rfl) dX11_hole_22 (mQ.elim fun v3 m3 hp => ?_)
        obtain ⟨hpv, hpm⟩ := hp
        subst hpv
        have hpm := hpm.symm
        subst hpm
        refine st_goto 29 (by decide) dX11_hole_25 ?_
        exact st_ireturn rfl dX11_hole_29 (mQ.ret (q4 h1 h3 h4))
      · have h4 : x1 = 0 := by omega
        refine st_iconst dX11_hole_17 ?_
        refine st_goto 22 (by decide) dX11_hole_18 ?_
        refine st_callV (kc2 := 0) (ks2 := 0) (av := [(0, 1)]) 35 4 mr_X11_251 ok_X4_longestHole (c_X4_longestHole mem 1 ((s11 h1 h3 h4)) ((s12 h1 h3 h4)) ((s13 h1 h3 h4))) rfl sh_35 ⟨_, rfl, rfl, by decide⟩ rfl rfl hd2 (Nat.le_refl 0) (Nat.le_refl 0) (Nat.le_of_ble_eq_true rfl) dX11_hole_22 (mQ.elim fun v4 m4 hp => ?_)
        obtain ⟨hpv, hpm⟩ := hp
        subst hpv
        have hpm := hpm.symm
        subst hpm
        refine st_goto 29 (by decide) dX11_hole_25 ?_
        exact st_ireturn rfl dX11_hole_29 (mQ.ret (q5 h1 h3 h4))
theorem cn_X11_spare {d : Nat} {P : Int → mmM → Prop} {mem : mmM} {x1 x2 : Int} (h : mmT bX11_spare d 0 0 (mQ 0 P) 0 [(2, 0), (0, x1), (0, x2), (9, 0)] [] mS mem) : con 0 bX11_spare d [(2, 0), (0, x1), (0, x2)] mem P := mmC_of [(2, 0), (0, x1), (0, x2), (9, 0)] ok_X11_spare.2.2.2.2 rfl (Nat.le_of_ble_eq_true rfl) h
theorem bk_X11_spare_0 {d : Nat} {P : Int → mmM → Prop} {mem : mmM} {x1 x2 : Int}
  (q1 : x1 < 1 → P (-1) mem)
  (q2 : 1 ≤ x1 → 8 < x1 → P (-1) mem)
  (q3 : 1 ≤ x1 → x1 ≤ 8 → x2 < 0 → P (-1) mem)
  (q4 : 1 ≤ x1 → x1 ≤ 8 → 0 ≤ x2 → x2 ≤ 1 → (spareF (mem 23 1) (mem 28) x1) = (-1) → P (spareF (mem 23 1) (mem 28) x1) mem)
  (q5 : 1 ≤ x1 → x1 ≤ 8 → 0 ≤ x2 → x2 ≤ 1 → ¬ (spareF (mem 23 1) (mem 28) x1) = (-1) → ¬ x2 = 0 → ¬ (chgF (mem 23 1) (mem 28) (spareF (mem 23 1) (mem 28) x1) x1) → P 0 mem)
  (q6 : 1 ≤ x1 → x1 ≤ 8 → 0 ≤ x2 → x2 ≤ 1 → ¬ (spareF (mem 23 1) (mem 28) x1) = (-1) → ¬ x2 = 0 → (chgF (mem 23 1) (mem 28) (spareF (mem 23 1) (mem 28) x1) x1) → P 1 mem)
  (q7 : 1 ≤ x1 → x1 ≤ 8 → 0 ≤ x2 → x2 ≤ 1 → ¬ (spareF (mem 23 1) (mem 28) x1) = (-1) → x2 = 0 → P (spareF (mem 23 1) (mem 28) x1) mem)
  (q8 : 1 ≤ x1 → x1 ≤ 8 → 0 ≤ x2 → 1 < x2 → P (-1) mem)
  (hd3 : 3 ≤ d := by omega)
  (hd4 : 4 ≤ d := by omega)
  (s1 : R32 x1 := by intros; first | omega | assumption | solve_by_elim)
  (s2 : 1 ≤ x1 → x1 ≤ 8 → R32 x2 := by intros; first | omega | assumption | solve_by_elim)
  (s3 : 1 ≤ x1 → x1 ≤ 8 → 0 ≤ x2 → x2 ≤ 1 → 1 ≤ x1 ∧ x1 ≤ 8 := by intros; first | omega | assumption | solve_by_elim)
  (s4 : 1 ≤ x1 → x1 ≤ 8 → 0 ≤ x2 → x2 ≤ 1 → 0 ≤ (mem 23 1) ∧ (mem 23 1) ≤ 24 := by intros; first | omega | assumption | solve_by_elim)
  (s5 : 1 ≤ x1 → x1 ≤ 8 → 0 ≤ x2 → x2 ≤ 1 → ¬ (spareF (mem 23 1) (mem 28) x1) = (-1) → ¬ x2 = 0 → R32 ((spareF (mem 23 1) (mem 28) x1) + x1) := by intros; first | omega | assumption | solve_by_elim)
  : mmT bX11_spare d 0 0 (mQ 0 P) 0 [(2, 0), (0, x1), (0, x2), (9, 0)] [] mS mem := by
  refine st_iload_n (i := 1) rfl rfl dX11_spare_0 ?_
  refine st_iconst dX11_spare_1 ?_
  refine sr_icmp_lt 20 s1 ⟨by decide, by decide⟩ (by decide) dX11_spare_2 (fun h1 => ?_) (fun h1 => ?_)
  · have h1 : x1 < 1 := by omega
    refine st_iconst dX11_spare_20 ?_
    exact st_ireturn rfl dX11_spare_21 (mQ.ret (q1 h1))
  · have h1 : 1 ≤ x1 := by omega
    refine st_iload_n (i := 1) rfl rfl dX11_spare_5 ?_
    refine st_bipush rfl dX11_spare_6 ?_
    refine sr_icmp_gt 20 s1 ⟨by decide, by decide⟩ (by decide) dX11_spare_8 (fun h2 => ?_) (fun h2 => ?_)
    · have h2 : 8 < x1 := by omega
      refine st_iconst dX11_spare_20 ?_
      exact st_ireturn rfl dX11_spare_21 (mQ.ret (q2 h1 h2))
    · have h2 : x1 ≤ 8 := by omega
      refine st_iload_n (i := 2) rfl rfl dX11_spare_11 ?_
      refine sr_if_lt 20 (s2 h1 h2) (by decide) dX11_spare_12 (fun h3 => ?_) (fun h3 => ?_)
      · have h3 : x2 < 0 := by omega
        refine st_iconst dX11_spare_20 ?_
        exact st_ireturn rfl dX11_spare_21 (mQ.ret (q3 h1 h2 h3))
      · have h3 : 0 ≤ x2 := by omega
        refine st_iload_n (i := 2) rfl rfl dX11_spare_15 ?_
        refine st_iconst dX11_spare_16 ?_
        refine sr_icmp_le 22 (s2 h1 h2) ⟨by decide, by decide⟩ (by decide) dX11_spare_17 (fun h4 => ?_) (fun h4 => ?_)
        · have h4 : x2 ≤ 1 := by omega
          refine st_aload_n (i := 0) rfl (t := 0) rfl (by decide) dX11_spare_22 ?_
          refine so_getA 0 4 fr_X11_42_10 rfl sh_0 fx_0_4 dX11_spare_23 ?_
          refine st_iload_n (i := 1) rfl rfl dX11_spare_26 ?_
          refine st_callV (kc2 := 0) (ks2 := 0) (av := [(0, x1)]) 23 8 mr_X11_292 ok_X8_sparePlace (c_X8_sparePlace mem x1 ((s3 h1 h2 h3 h4)) ((s4 h1 h2 h3 h4))) rfl sh_23 ⟨_, rfl, rfl, by decide⟩ rfl rfl hd4 (Nat.le_refl 0) (Nat.le_refl 0) (Nat.le_of_ble_eq_true rfl) dX11_spare_27 (mQ.elim fun v1 m1 hp => ?_)
          obtain ⟨hpv, hpm⟩ := hp
          subst hpv
          have hpm := hpm.symm
          subst hpm
          refine st_istore_n (i := 3) rfl (by decide) (lc' := [(2, 0), (0, x1), (0, x2), (0, (spareF (mem 23 1) (mem 28) x1))]) rfl dX11_spare_30 ?_
          refine st_iload_n (i := 3) rfl rfl dX11_spare_31 ?_
          refine st_iconst dX11_spare_32 ?_
          refine sr_icmp_eq 40 (spareF_rng ((s3 h1 h2 h3 h4)) ((s4 h1 h2 h3 h4))) ⟨by decide, by decide⟩ (by decide) dX11_spare_33 (fun h5 => ?_) (fun h5 => ?_)
          · have h5 : (spareF (mem 23 1) (mem 28) x1) = (-1) := by omega
            refine st_iload_n (i := 3) rfl rfl dX11_spare_40 ?_
            exact st_ireturn rfl dX11_spare_41 (mQ.ret (q4 h1 h2 h3 h4 h5))
          · have h5 : ¬ (spareF (mem 23 1) (mem 28) x1) = (-1) := by omega
            refine st_iload_n (i := 2) rfl rfl dX11_spare_36 ?_
            refine sr_if_ne 42 (s2 h1 h2) (by decide) dX11_spare_37 (fun h6 => ?_) (fun h6 => ?_)
            · have h6 : ¬ x2 = 0 := by omega
              refine st_aload_n (i := 0) rfl (t := 0) rfl (by decide) dX11_spare_42 ?_
              refine so_getA 0 4 fr_X11_42_10 rfl sh_0 fx_0_4 dX11_spare_43 ?_
              refine st_iload_n (i := 3) rfl rfl dX11_spare_46 ?_
              refine st_iload_n (i := 1) rfl rfl dX11_spare_47 ?_
              refine st_callV (kc2 := 0) (ks2 := 0) (av := [(0, (spareF (mem 23 1) (mem 28) x1)), (0, x1)]) 23 8 mr_X11_295 ok_X8_changesCue (c_X8_changesCue mem (spareF (mem 23 1) (mem 28) x1) x1 ((spareF_rng ((s3 h1 h2 h3 h4)) ((s4 h1 h2 h3 h4)))) ((s5 h1 h2 h3 h4 h5 h6)) ((s4 h1 h2 h3 h4))) rfl sh_23 ⟨_, rfl, rfl, by decide⟩ rfl rfl hd3 (Nat.le_refl 0) (Nat.le_refl 0) (Nat.le_of_ble_eq_true rfl) dX11_spare_48 (mQ.elim fun v2 m2 hp => ?_)
              obtain ⟨hpv, hpm⟩ := hp
              subst hpv
              have hpm := hpm.symm
              subst hpm
              refine so_ifeqB 58 (by decide) dX11_spare_51 (fun h7 => ?_) (fun h7 => ?_)
              · have h7 : ¬ (chgF (mem 23 1) (mem 28) (spareF (mem 23 1) (mem 28) x1) x1) := h7
                refine st_iconst dX11_spare_58 ?_
                exact st_ireturn rfl dX11_spare_59 (mQ.ret (q5 h1 h2 h3 h4 h5 h6 h7))
              · have h7 : (chgF (mem 23 1) (mem 28) (spareF (mem 23 1) (mem 28) x1) x1) := h7
                refine st_iconst dX11_spare_54 ?_
                refine st_goto 59 (by decide) dX11_spare_55 ?_
                exact st_ireturn rfl dX11_spare_59 (mQ.ret (q6 h1 h2 h3 h4 h5 h6 h7))
            · have h6 : x2 = 0 := by omega
              refine st_iload_n (i := 3) rfl rfl dX11_spare_40 ?_
              exact st_ireturn rfl dX11_spare_41 (mQ.ret (q7 h1 h2 h3 h4 h5 h6))
        · have h4 : 1 < x2 := by omega
          refine st_iconst dX11_spare_20 ?_
          exact st_ireturn rfl dX11_spare_21 (mQ.ret (q8 h1 h2 h3 h4))
theorem c_X11_loop (mem : mmM) (x1 : Int) (h1 : R32 x1) (hn : 0 ≤ mem 23 1 ∧ mem 23 1 ≤ 24) (ht : ∀ i, 0 ≤ i → i < mem 23 1 → -1 ≤ mem 38 i ∧ mem 38 i < mem 23 1) : con 0 bX11_loop 2 [(2, 0), (0, x1)] mem (fun v m => v = (if x1 = 0 then (loopF (mem 23 1) (mem 38)).1 else if x1 = 1 then (loopF (mem 23 1) (mem 38)).2 else -1) ∧ m = mem) := by
  refine cn_X11_loop (bk_X11_loop_0 (fun g g2 => absurd g g2) (fun g g2 => ⟨?_, rfl⟩) (fun g g2 => ⟨?_, rfl⟩) (fun g g2 g3 => ⟨?_, rfl⟩) (fun g g2 g3 => absurd g3 g))
  · rw [if_pos g, if_neg (by decide)]
  · rw [if_neg g, if_neg g2]
  · rw [if_neg g, if_pos g2, if_pos rfl]
theorem c_X11_hole (mem : mmM) (x1 : Int) (h1 : R32 x1) (hn : 0 ≤ mem 23 1 ∧ mem 23 1 ≤ 24) (ht : ∀ i, 0 ≤ i → i < mem 23 1 → -1 ≤ mem 38 i ∧ mem 38 i < mem 23 1) : con 0 bX11_hole 2 [(2, 0), (0, x1)] mem (fun v m => v = (if x1 = 0 then (holeF (mem 23 1) (mem 38)).1 else if x1 = 1 then (holeF (mem 23 1) (mem 38)).2 else -1) ∧ m = mem) := by
  refine cn_X11_hole (bk_X11_hole_0 (fun g g2 => absurd g g2) (fun g g2 => ⟨?_, rfl⟩) (fun g g2 => ⟨?_, rfl⟩) (fun g g2 g3 => ⟨?_, rfl⟩) (fun g g2 g3 => absurd g3 g))
  · rw [if_pos g, if_neg (by decide)]
  · rw [if_neg g, if_neg g2]
  · rw [if_neg g, if_pos g2, if_pos rfl]
theorem c_X11_spare (mem : mmM) (x1 x2 : Int) (h1 : R32 x1) (h2 : R32 x2) (hn : 0 ≤ mem 23 1 ∧ mem 23 1 ≤ 24) : con 0 bX11_spare 4 [(2, 0), (0, x1), (0, x2)] mem (fun v m => v = (if ¬ (1 ≤ x1 ∧ x1 ≤ 8) ∨ ¬ (0 ≤ x2 ∧ x2 ≤ 1) then -1 else if spareF (mem 23 1) (mem 28) x1 = -1 then -1 else if x2 = 0 then spareF (mem 23 1) (mem 28) x1 else b2i (chgF (mem 23 1) (mem 28) (spareF (mem 23 1) (mem 28) x1) x1)) ∧ m = mem) := by
  have hb : (1 ≤ x1 ∧ x1 ≤ 8) → -1 ≤ spareF (mem 23 1) (mem 28) x1 ∧ spareF (mem 23 1) (mem 28) x1 ≤ 24 := fun g => spareF_bnd g hn
  refine cn_X11_spare (bk_X11_spare_0 (fun g => ⟨?_, rfl⟩) (fun g g2 => ⟨?_, rfl⟩) (fun g g2 g3 => ⟨?_, rfl⟩) (fun g g2 g3 g4 g5 => ⟨?_, rfl⟩) (fun g g2 g3 g4 g5 g6 g7 => ⟨?_, rfl⟩) (fun g g2 g3 g4 g5 g6 g7 => ⟨?_, rfl⟩) (fun g g2 g3 g4 g5 g6 => ⟨?_, rfl⟩) (fun g g2 g3 g4 => ⟨?_, rfl⟩) (s5 := fun g g2 g3 g4 g5 g6 => by have := hb ⟨g, g2⟩; omega))
  · rw [if_pos (by omega)]
  · rw [if_pos (by omega)]
  · rw [if_pos (by omega)]
  · rw [if_neg (by omega), if_pos g5, g5]
  · rw [if_neg (by omega), if_neg g5, if_neg g6, b2i_0 g7]
  · rw [if_neg (by omega), if_neg g5, if_neg g6, b2i_1 g7]
  · rw [if_neg (by omega), if_neg g5, if_pos g6]
  · rw [if_pos (by omega)]
