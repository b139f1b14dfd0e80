/-! what is asked of the odds -/
theorem oddFr.forg {mem m : mmM} (h : oddFr mem m) : forgetsX m = forgetsX mem := by
  funext a b
  unfold forgetsX
  rw [h 23 (by omega), h 31 (by omega), h 32 (by omega)]
theorem oddFr.take {mem m : mmM} (h : oddFr mem m) : takeX m = takeX mem := by
  funext a
  unfold takeX
  rw [h 23 (by omega), h 37 (by omega), h 24 (by omega)]
theorem oddFr.night {mem m : mmM} (h : oddFr mem m) (hp : nightP mem) : nightP m := by
  unfold nightP playX
  rw [h.forg, h.take, h 23 (by omega), h 24 (by omega), h 26 (by omega), h 38 (by omega)]
  exact hp
theorem oddFr.trans {m0 m1 m2 : mmM} (h : oddFr m0 m1) (h' : oddFr m1 m2) : oddFr m0 m2 := fun a ha => (h' a ha).trans (h a ha)
def EX (mem : mmM) (mk most : Int) : odU := odN (mem 23 1) (fgX mem mk) (tkX mem mk) (mem 38) most.toNat
def ESX (mem : mmM) (mk a most : Int) : odU := odN (mem 23 1) (fgS (mem 24) (fgX mem mk) a) (tkX mem mk) (mem 38) most.toNat
theorem oddFr.eex {mem m : mmM} (h : oddFr mem m) (mk most : Int) : EX m mk most = EX mem mk most := by
  unfold EX fgX tkX
  rw [h.forg, h.take, h 23 (by omega), h 38 (by omega)]
theorem oddFr.esx {mem m : mmM} (h : oddFr mem m) (mk a most : Int) : ESX m mk a most = ESX mem mk a most := by
  unfold ESX fgX tkX
  rw [h.forg, h.take, h 23 (by omega), h 24 (by omega), h 38 (by omega)]
def oddQ (mem m : mmM) : Prop := oddFr mem m ∧ odOr m
theorem EX_ok {mem : mmM} (hp : nightP mem) (hn0 : 0 < mem 23 1) (mk most : Int) : 0 ≤ (EX mem mk most).2.1 ∧ (EX mem mk most).2.1 ≤ 1000000000 := (odK_sum (odN_ok (odP_X hp mk) hn0 most.toNat)).2.1
theorem odP_S {n : Int} {fg tk to ac : Int → Int} (h : odP n fg tk to) (a : Int) : odP n (fgS ac fg a) tk to := by
  refine ⟨h.1, fun i i0 i1 => ?_⟩
  have := h.2 i i0 i1
  refine ⟨?_, this.2⟩
  unfold fgS
  split <;> omega
theorem ESX_ok {mem : mmM} (hp : nightP mem) (hn0 : 0 < mem 23 1) (mk a most : Int) : 0 ≤ (ESX mem mk a most).2.1 ∧ (ESX mem mk a most).2.1 ≤ 1000000000 := (odK_sum (odN_ok (odP_S (odP_X hp mk) a) hn0 most.toNat)).2.1
theorem cn_X11_chance {d : Nat} {P : Int → mmM → Prop} {mem : mmM} {x1 : Int} (h : mmT bX11_chance d 0 0 (mQ 0 P) 0 [(2, 0), (0, x1)] [] mS mem) : con 0 bX11_chance d [(2, 0), (0, x1)] mem P := mmC_of [(2, 0), (0, x1)] ok_X11_chance.2.2.2.2 rfl (Nat.le_of_ble_eq_true rfl) h
theorem bk_X11_chance_0 {d : Nat} {d1 : Nat} {P1 : Int → mmM → Prop} {P : Int → mmM → Prop} {mem : mmM} {x1 : Int}
  (c1 : ¬ (mem 23 1) = 0 → (1 ≤ x1 ∧ x1 ≤ 200) → con 0 bX7_chanceWith d1 [(2, 58), (0, (mem 47 0)), (0, x1)] mem P1)
  (q1 : (mem 23 1) = 0 → P (-1) mem)
  (q2 : ¬ (mem 23 1) = 0 → (1 ≤ x1 ∧ x1 ≤ 200) → ∀ (v2 : Int), ∀ (m2 : mmM), P1 v2 m2 → P v2 m2)
  (q3 : ¬ (mem 23 1) = 0 → ¬ (1 ≤ x1 ∧ x1 ≤ 200) → P (-1) mem)
  (hd_d1 : d1 + 1 ≤ d := by omega)
  (hd2 : 2 ≤ d := by omega)
  (s1 : ¬ (mem 23 1) = 0 → R32 x1 := by intros; first | omega | assumption | solve_by_elim)
  : mmT bX11_chance d 0 0 (mQ 0 P) 0 [(2, 0), (0, x1)] [] mS mem := by
  refine st_aload_n (i := 0) rfl (t := 0) rfl (by decide) dX11_chance_0 ?_
  refine so_getA 0 4 fr_X11_42_10 rfl sh_0 fx_0_4 dX11_chance_1 ?_
  refine so_getI (v := (mem 23 1)) 23 1 fr_X11_135_8 rfl sh_23 rfl dX11_chance_4 (fun r1 => ?_)
  refine sr_if_eq 17 r1 (by decide) dX11_chance_7 (fun h1 => ?_) (fun h1 => ?_)
  · have h1 : (mem 23 1) = 0 := by omega
    refine st_iconst dX11_chance_17 ?_
    exact st_ireturn rfl dX11_chance_18 (mQ.ret (q1 h1))
  · have h1 : ¬ (mem 23 1) = 0 := by omega
    refine st_iload_n (i := 1) rfl rfl dX11_chance_10 ?_
    refine st_callS (kc2 := 0) (ks2 := 0) (av := [(0, x1)]) mr_X11_260 ok_X11_isMostSaid (c_X11_isMostSaid mem x1 ((s1 h1))) rfl rfl hd2 (Nat.le_refl 0) (Nat.le_refl 0) (Nat.le_of_ble_eq_true rfl) dX11_chance_11 (mQ.elim fun v1 m1 hp => ?_)
    obtain ⟨hpv, hpm⟩ := hp
    subst hpv
    have hpm := hpm.symm
    subst hpm
    refine so_ifneB 19 (by decide) dX11_chance_14 (fun h2 => ?_) (fun h2 => ?_)
    · have h2 : (1 ≤ x1 ∧ x1 ≤ 200) := h2
      refine st_aload_n (i := 0) rfl (t := 0) rfl (by decide) dX11_chance_19 ?_
      refine so_getA 0 10 fr_X11_84_10 rfl sh_0 fx_0_10 dX11_chance_20 ?_
      refine st_aload_n (i := 0) rfl (t := 0) rfl (by decide) dX11_chance_23 ?_
      refine so_getA 0 6 fr_X11_58_10 rfl sh_0 fx_0_6 dX11_chance_24 ?_
      refine so_getI (v := (mem 47 0)) 47 0 fr_X11_188_6 rfl sh_47 rfl dX11_chance_27 (fun r2 => ?_)
      refine st_iload_n (i := 1) rfl rfl dX11_chance_30 ?_
      refine st_callV (kc2 := 0) (ks2 := 0) (av := [(0, (mem 47 0)), (0, x1)]) 58 7 mr_X11_263 ok_X7_chanceWith (c1 h1 h2) rfl sh_58 ⟨_, rfl, rfl, by decide⟩ rfl rfl hd_d1 (Nat.le_refl 0) (Nat.le_refl 0) (Nat.le_of_ble_eq_true rfl) dX11_chance_31 (mQ.elim fun v2 m2 p1 => ?_)
      exact st_ireturn rfl dX11_chance_34 (mQ.ret (q2 h1 h2 v2 m2 p1))
    · have h2 : ¬ (1 ≤ x1 ∧ x1 ≤ 200) := h2
      refine st_iconst dX11_chance_17 ?_
      exact st_ireturn rfl dX11_chance_18 (mQ.ret (q3 h1 h2))
theorem cn_X11_mean {d : Nat} {P : Int → mmM → Prop} {mem : mmM} {x1 x2 : Int} (h : mmT bX11_mean d 0 0 (mQ 0 P) 0 [(2, 0), (0, x1), (0, x2)] [] mS mem) : con 0 bX11_mean d [(2, 0), (0, x1), (0, x2)] mem P := mmC_of [(2, 0), (0, x1), (0, x2)] ok_X11_mean.2.2.2.2 rfl (Nat.le_of_ble_eq_true rfl) h
theorem bk_X11_mean_0 {d : Nat} {d1 : Nat} {P1 : Int → mmM → Prop} {P : Int → mmM → Prop} {mem : mmM} {x1 x2 : Int}
  (c1 : (0 ≤ x1 ∧ x1 < (mem 23 1)) → (1 ≤ x2 ∧ x2 ≤ 200) → con 0 bX7_chanceWith d1 [(2, 58), (0, (mem 47 0)), (0, x2)] mem P1)
  (q1 : ¬ (0 ≤ x1 ∧ x1 < (mem 23 1)) → P (-1) mem)
  (q2 : (0 ≤ x1 ∧ x1 < (mem 23 1)) → (1 ≤ x2 ∧ x2 ≤ 200) → ∀ (v3 : Int), ∀ (m3 : mmM), P1 v3 m3 → P (m3 63 x1) m3)
  (q3 : (0 ≤ x1 ∧ x1 < (mem 23 1)) → ¬ (1 ≤ x2 ∧ x2 ≤ 200) → P (-1) mem)
  (hd_d1 : d1 + 1 ≤ d := by omega)
  (hd2 : 2 ≤ d := by omega)
  (s1 : R32 x1 := by intros; first | omega | assumption | solve_by_elim)
  (s2 : (0 ≤ x1 ∧ x1 < (mem 23 1)) → R32 x2 := by intros; first | omega | assumption | solve_by_elim)
  (s3 : (0 ≤ x1 ∧ x1 < (mem 23 1)) → (1 ≤ x2 ∧ x2 ≤ 200) → ∀ (v3 : Int), ∀ (m3 : mmM), P1 v3 m3 → 0 ≤ x1 ∧ x1 < 24 := by intros; first | omega | assumption | solve_by_elim)
  : mmT bX11_mean d 0 0 (mQ 0 P) 0 [(2, 0), (0, x1), (0, x2)] [] mS mem := by
  refine st_aload_n (i := 0) rfl (t := 0) rfl (by decide) dX11_mean_0 ?_
  refine so_getA 0 4 fr_X11_42_10 rfl sh_0 fx_0_4 dX11_mean_1 ?_
  refine st_iload_n (i := 1) rfl rfl dX11_mean_4 ?_
  refine st_callV (kc2 := 0) (ks2 := 0) (av := [(0, x1)]) 23 8 mr_X11_136 ok_X8_has (c_X8_has mem x1 (s1)) rfl sh_23 ⟨_, rfl, rfl, by decide⟩ rfl rfl hd2 (Nat.le_refl 0) (Nat.le_refl 0) (Nat.le_of_ble_eq_true rfl) dX11_mean_5 (mQ.elim fun v1 m1 hp => ?_)
  obtain ⟨hpv, hpm⟩ := hp
  subst hpv
  have hpm := hpm.symm
  subst hpm
  refine so_ifeqB 18 (by decide) dX11_mean_8 (fun h1 => ?_) (fun h1 => ?_)
  · have h1 : ¬ (0 ≤ x1 ∧ x1 < (mem 23 1)) := h1
    refine st_iconst dX11_mean_18 ?_
    exact st_ireturn rfl dX11_mean_19 (mQ.ret (q1 h1))
  · have h1 : (0 ≤ x1 ∧ x1 < (mem 23 1)) := h1
    refine st_iload_n (i := 2) rfl rfl dX11_mean_11 ?_
    refine st_callS (kc2 := 0) (ks2 := 0) (av := [(0, x2)]) mr_X11_260 ok_X11_isMostSaid (c_X11_isMostSaid mem x2 ((s2 h1))) rfl rfl hd2 (Nat.le_refl 0) (Nat.le_refl 0) (Nat.le_of_ble_eq_true rfl) dX11_mean_12 (mQ.elim fun v2 m2 hp => ?_)
    obtain ⟨hpv, hpm⟩ := hp
    subst hpv
    have hpm := hpm.symm
    subst hpm
    refine so_ifneB 20 (by decide) dX11_mean_15 (fun h2 => ?_) (fun h2 => ?_)
    · have h2 : (1 ≤ x2 ∧ x2 ≤ 200) := h2
      refine st_aload_n (i := 0) rfl (t := 0) rfl (by decide) dX11_mean_20 ?_
      refine so_getA 0 10 fr_X11_84_10 rfl sh_0 fx_0_10 dX11_mean_21 ?_
      refine st_aload_n (i := 0) rfl (t := 0) rfl (by decide) dX11_mean_24 ?_
      refine so_getA 0 6 fr_X11_58_10 rfl sh_0 fx_0_6 dX11_mean_25 ?_
      refine so_getI (v := (mem 47 0)) 47 0 fr_X11_188_6 rfl sh_47 rfl dX11_mean_28 (fun r1 => ?_)
      refine st_iload_n (i := 2) rfl rfl dX11_mean_31 ?_
      refine st_callV (kc2 := 0) (ks2 := 0) (av := [(0, (mem 47 0)), (0, x2)]) 58 7 mr_X11_263 ok_X7_chanceWith (c1 h1 h2) rfl sh_58 ⟨_, rfl, rfl, by decide⟩ rfl rfl hd_d1 (Nat.le_refl 0) (Nat.le_refl 0) (Nat.le_of_ble_eq_true rfl) dX11_mean_32 (mQ.elim fun v3 m3 p1 => ?_)
      refine st_pop (Nat.ne_of_beq_eq_false rfl) dX11_mean_35 ?_
      refine st_aload_n (i := 0) rfl (t := 0) rfl (by decide) dX11_mean_36 ?_
      refine so_getA 0 10 fr_X11_84_10 rfl sh_0 fx_0_10 dX11_mean_37 ?_
      refine so_getA 58 6 fr_X11_267_7 rfl sh_58 fx_58_6 dX11_mean_40 ?_
      refine st_iload_n (i := 1) rfl rfl dX11_mean_43 ?_
      refine so_lald (v := (m3 63 x1)) 63 rfl sh_63 (by decide) (s3 h1 h2 v3 m3 p1) rfl dX11_mean_44 (fun r2 => ?_)
      refine st_l2i dX11_mean_45 ?_
      exact st_ireturn rfl dX11_mean_46 (mQ.ret (q2 h1 h2 v3 m3 p1))
    · have h2 : ¬ (1 ≤ x2 ∧ x2 ≤ 200) := h2
      refine st_iconst dX11_mean_18 ?_
      exact st_ireturn rfl dX11_mean_19 (mQ.ret (q3 h1 h2))
theorem cn_X11_understudy {d : Nat} {P : Int → mmM → Prop} {mem : mmM} {x1 x2 : Int} (h : mmT bX11_understudy d 0 0 (mQ 0 P) 0 [(2, 0), (0, x1), (0, x2), (9, 0), (9, 0), (9, 0), (9, 0)] [] mS mem) : con 0 bX11_understudy d [(2, 0), (0, x1), (0, x2)] mem P := mmC_of [(2, 0), (0, x1), (0, x2), (9, 0), (9, 0), (9, 0), (9, 0)] ok_X11_understudy.2.2.2.2 rfl (Nat.le_of_ble_eq_true rfl) h
theorem bk_X11_understudy_0 {d : Nat} {P : Int → mmM → Prop} {mem : mmM} {x1 x2 : Int}
  (k1 : ¬ (mem 23 1) = 0 → (1 ≤ x1 ∧ x1 ≤ 200) → 0 ≤ x2 → x2 ≤ 1 → mmT bX11_understudy d 0 0 (mQ 0 P) 36 [(2, 0), (0, x1), (0, x2), (0, (-1)), (0, (-1)), (0, 0), (9, 0)] [] mS mem)
  (q1 : (mem 23 1) = 0 → P (-1) mem)
  (q2 : ¬ (mem 23 1) = 0 → ¬ (1 ≤ x1 ∧ x1 ≤ 200) → P (-1) mem)
  (q3 : ¬ (mem 23 1) = 0 → (1 ≤ x1 ∧ x1 ≤ 200) → x2 < 0 → P (-1) mem)
  (q4 : ¬ (mem 23 1) = 0 → (1 ≤ x1 ∧ x1 ≤ 200) → 0 ≤ x2 → 1 < x2 → P (-1) mem)
  (hd2 : 2 ≤ d := by omega)
  (s1 : ¬ (mem 23 1) = 0 → R32 x1 := by intros; first | omega | assumption | solve_by_elim)
  (s2 : ¬ (mem 23 1) = 0 → (1 ≤ x1 ∧ x1 ≤ 200) → R32 x2 := by intros; first | omega | assumption | solve_by_elim)
  : mmT bX11_understudy d 0 0 (mQ 0 P) 0 [(2, 0), (0, x1), (0, x2), (9, 0), (9, 0), (9, 0), (9, 0)] [] mS mem := by
  refine st_aload_n (i := 0) rfl (t := 0) rfl (by decide) dX11_understudy_0 ?_
  refine so_getA 0 4 fr_X11_42_10 rfl sh_0 fx_0_4 dX11_understudy_1 ?_
  refine so_getI (v := (mem 23 1)) 23 1 fr_X11_135_8 rfl sh_23 rfl dX11_understudy_4 (fun r1 => ?_)
  refine sr_if_eq 26 r1 (by decide) dX11_understudy_7 (fun h1 => ?_) (fun h1 => ?_)
  · have h1 : (mem 23 1) = 0 := by omega
    refine st_iconst dX11_understudy_26 ?_
    exact st_ireturn rfl dX11_understudy_27 (mQ.ret (q1 h1))
  · have h1 : ¬ (mem 23 1) = 0 := by omega
    refine st_iload_n (i := 1) rfl rfl dX11_understudy_10 ?_
    refine st_callS (kc2 := 0) (ks2 := 0) (av := [(0, x1)]) mr_X11_260 ok_X11_isMostSaid (c_X11_isMostSaid mem x1 ((s1 h1))) rfl rfl hd2 (Nat.le_refl 0) (Nat.le_refl 0) (Nat.le_of_ble_eq_true rfl) dX11_understudy_11 (mQ.elim fun v1 m1 hp => ?_)
    obtain ⟨hpv, hpm⟩ := hp
    subst hpv
    have hpm := hpm.symm
    subst hpm
    refine so_ifeqB 26 (by decide) dX11_understudy_14 (fun h2 => ?_) (fun h2 => ?_)
    · have h2 : ¬ (1 ≤ x1 ∧ x1 ≤ 200) := h2
      refine st_iconst dX11_understudy_26 ?_
      exact st_ireturn rfl dX11_understudy_27 (mQ.ret (q2 h1 h2))
    · have h2 : (1 ≤ x1 ∧ x1 ≤ 200) := h2
      refine st_iload_n (i := 2) rfl rfl dX11_understudy_17 ?_
      refine sr_if_lt 26 (s2 h1 h2) (by decide) dX11_understudy_18 (fun h3 => ?_) (fun h3 => ?_)
      · have h3 : x2 < 0 := by omega
        refine st_iconst dX11_understudy_26 ?_
        exact st_ireturn rfl dX11_understudy_27 (mQ.ret (q3 h1 h2 h3))
      · have h3 : 0 ≤ x2 := by omega
        refine st_iload_n (i := 2) rfl rfl dX11_understudy_21 ?_
        refine st_iconst dX11_understudy_22 ?_
        refine sr_icmp_le 28 (s2 h1 h2) ⟨by decide, by decide⟩ (by decide) dX11_understudy_23 (fun h4 => ?_) (fun h4 => ?_)
        · have h4 : x2 ≤ 1 := by omega
          refine st_iconst dX11_understudy_28 ?_
          refine st_istore_n (i := 3) rfl (by decide) (lc' := [(2, 0), (0, x1), (0, x2), (0, (-1)), (9, 0), (9, 0), (9, 0)]) rfl dX11_understudy_29 ?_
          refine st_iconst dX11_understudy_30 ?_
          refine st_istore (by decide) (lc' := [(2, 0), (0, x1), (0, x2), (0, (-1)), (0, (-1)), (9, 0), (9, 0)]) rfl dX11_understudy_31 ?_
          refine st_iconst dX11_understudy_33 ?_
          refine st_istore (by decide) (lc' := [(2, 0), (0, x1), (0, x2), (0, (-1)), (0, (-1)), (0, 0), (9, 0)]) rfl dX11_understudy_34 ?_
          exact st_locals [(2, 0), (0, x1), (0, x2), (0, (-1)), (0, (-1)), (0, 0), (9, 0)] ⟨Or.inr rfl, Or.inr rfl, Or.inr rfl, Or.inr rfl, Or.inr rfl, Or.inr rfl, Or.inl rfl, trivial⟩ (k1 h1 h2 h3 h4)
        · have h4 : 1 < x2 := by omega
          refine st_iconst dX11_understudy_26 ?_
          exact st_ireturn rfl dX11_understudy_27 (mQ.ret (q4 h1 h2 h3 h4))
theorem bk_X11_understudy_36 {d : Nat} {d1 : Nat} {P1 : Int → mmM → Prop} {P : Int → mmM → Prop} {mem : mmM} {x1 x2 x3 x4 x5 : Int}
  (c1 : x5 < 8 → ((0 ≤ x5 ∧ x5 < 8) ∧ and32 (shr32 (actF (mem 23 1) (mem 24)) x5) 1 = 1) → con 0 bX7_chanceIfSure d1 [(2, 58), (0, x5), (0, (mem 47 0)), (0, x1)] mem P1)
  (k1 : x5 < 8 → ¬ ((0 ≤ x5 ∧ x5 < 8) ∧ and32 (shr32 (actF (mem 23 1) (mem 24)) x5) 1 = 1) → (-1) ≤ x4 → mmT bX11_understudy d 0 0 (mQ 0 P) 36 [(2, 0), (0, x1), (0, x2), (0, x3), (0, x4), (0, (x5 + 1)), (9, 0)] [] mS mem)
  (k2 : x5 < 8 → ¬ ((0 ≤ x5 ∧ x5 < 8) ∧ and32 (shr32 (actF (mem 23 1) (mem 24)) x5) 1 = 1) → x4 < (-1) → mmT bX11_understudy d 0 0 (mQ 0 P) 36 [(2, 0), (0, x1), (0, x2), (0, x5), (0, (-1)), (0, (x5 + 1)), (9, 0)] [] mS mem)
  (k3 : x5 < 8 → ((0 ≤ x5 ∧ x5 < 8) ∧ and32 (shr32 (actF (mem 23 1) (mem 24)) x5) 1 = 1) → ∀ (v2 : Int), ∀ (m2 : mmM), P1 v2 m2 → v2 ≤ x4 → mmT bX11_understudy d 0 0 (mQ 0 P) 36 [(2, 0), (0, x1), (0, x2), (0, x3), (0, x4), (0, (x5 + 1)), (9, 0)] [] mS m2)
  (k4 : x5 < 8 → ((0 ≤ x5 ∧ x5 < 8) ∧ and32 (shr32 (actF (mem 23 1) (mem 24)) x5) 1 = 1) → ∀ (v2 : Int), ∀ (m2 : mmM), P1 v2 m2 → x4 < v2 → mmT bX11_understudy d 0 0 (mQ 0 P) 36 [(2, 0), (0, x1), (0, x2), (0, x5), (0, v2), (0, (x5 + 1)), (9, 0)] [] mS m2)
  (q1 : 8 ≤ x5 → ¬ x2 = 0 → P x4 mem)
  (q2 : 8 ≤ x5 → x2 = 0 → P x3 mem)
  (hd_d1 : d1 + 1 ≤ d := by omega)
  (hd3 : 3 ≤ d := by omega)
  (s1 : R32 x5 := by intros; first | omega | assumption | solve_by_elim)
  (s2 : 8 ≤ x5 → R32 x2 := by intros; first | omega | assumption | solve_by_elim)
  (s3 : x5 < 8 → 0 ≤ (mem 23 1) ∧ (mem 23 1) ≤ 24 := by intros; first | omega | assumption | solve_by_elim)
  (s4 : x5 < 8 → ¬ ((0 ≤ x5 ∧ x5 < 8) ∧ and32 (shr32 (actF (mem 23 1) (mem 24)) x5) 1 = 1) → R32 x4 := by intros; first | omega | assumption | solve_by_elim)
  (s5 : x5 < 8 → ((0 ≤ x5 ∧ x5 < 8) ∧ and32 (shr32 (actF (mem 23 1) (mem 24)) x5) 1 = 1) → ∀ (v2 : Int), ∀ (m2 : mmM), P1 v2 m2 → R32 v2 := by intros; first | omega | assumption | solve_by_elim)
  (s6 : x5 < 8 → ((0 ≤ x5 ∧ x5 < 8) ∧ and32 (shr32 (actF (mem 23 1) (mem 24)) x5) 1 = 1) → ∀ (v2 : Int), ∀ (m2 : mmM), P1 v2 m2 → R32 x4 := by intros; first | omega | assumption | solve_by_elim)
  : mmT bX11_understudy d 0 0 (mQ 0 P) 36 [(2, 0), (0, x1), (0, x2), (0, x3), (0, x4), (0, x5), (9, 0)] [] mS mem := by
  refine st_iload rfl dX11_understudy_36 ?_
  refine st_bipush rfl dX11_understudy_38 ?_
  refine sr_icmp_ge 98 s1 ⟨by decide, by decide⟩ (by decide) dX11_understudy_40 (fun h1 => ?_) (fun h1 => ?_)
  · have h1 : 8 ≤ x5 := by omega
    refine st_iload_n (i := 2) rfl rfl dX11_understudy_98 ?_
    refine sr_if_ne 106 (s2 h1) (by decide) dX11_understudy_99 (fun h2 => ?_) (fun h2 => ?_)
    · have h2 : ¬ x2 = 0 := by omega
      refine st_iload rfl dX11_understudy_106 ?_
      exact st_ireturn rfl dX11_understudy_108 (mQ.ret (q1 h1 h2))
    · have h2 : x2 = 0 := by omega
      refine st_iload_n (i := 3) rfl rfl dX11_understudy_102 ?_
      refine st_goto 108 (by decide) dX11_understudy_103 ?_
      exact st_ireturn rfl dX11_understudy_108 (mQ.ret (q2 h1 h2))
  · have h1 : x5 < 8 := by omega
    refine st_aload_n (i := 0) rfl (t := 0) rfl (by decide) dX11_understudy_43 ?_
    refine so_getA 0 4 fr_X11_42_10 rfl sh_0 fx_0_4 dX11_understudy_44 ?_
    refine st_iload rfl dX11_understudy_47 ?_
    refine st_callV (kc2 := 0) (ks2 := 0) (av := [(0, x5)]) 23 8 mr_X11_282 ok_X8_hasActor (c_X8_hasActor mem x5 (s1) ((s3 h1))) rfl sh_23 ⟨_, rfl, rfl, by decide⟩ rfl rfl hd3 (Nat.le_refl 0) (Nat.le_refl 0) (Nat.le_of_ble_eq_true rfl) dX11_understudy_49 (mQ.elim fun v1 m1 hp => ?_)
    obtain ⟨hpv, hpm⟩ := hp
    subst hpv
    have hpm := hpm.symm
    subst hpm
    refine so_ifeqB 75 (by decide) dX11_understudy_52 (fun h3 => ?_) (fun h3 => ?_)
    · have h3 : ¬ ((0 ≤ x5 ∧ x5 < 8) ∧ and32 (shr32 (actF (mem 23 1) (mem 24)) x5) 1 = 1) := h3
      refine st_iconst dX11_understudy_75 ?_
      refine st_istore (by decide) (lc' := [(2, 0), (0, x1), (0, x2), (0, x3), (0, x4), (0, x5), (0, (-1))]) rfl dX11_understudy_76 ?_
      refine st_iload rfl dX11_understudy_78 ?_
      refine st_iload rfl dX11_understudy_80 ?_
      refine sr_icmp_le 92 ⟨by decide, by decide⟩ (s4 h1 h3) (by decide) dX11_understudy_82 (fun h4 => ?_) (fun h4 => ?_)
      · have h4 : (-1) ≤ x4 := by omega
        refine st_iinc (y := (x5 + 1)) (by decide) (i := 5) rfl rfl (lc' := [(2, 0), (0, x1), (0, x2), (0, x3), (0, x4), (0, (x5 + 1)), (0, (-1))]) rfl dX11_understudy_92 ?_
        refine st_goto 36 (by decide) dX11_understudy_95 ?_
        exact st_locals [(2, 0), (0, x1), (0, x2), (0, x3), (0, x4), (0, (x5 + 1)), (9, 0)] ⟨Or.inr rfl, Or.inr rfl, Or.inr rfl, Or.inr rfl, Or.inr rfl, Or.inr rfl, Or.inl rfl, trivial⟩ (k1 h1 h3 h4)
      · have h4 : x4 < (-1) := by omega
        refine st_iload rfl dX11_understudy_85 ?_
        refine st_istore_n (i := 3) rfl (by decide) (lc' := [(2, 0), (0, x1), (0, x2), (0, x5), (0, x4), (0, x5), (0, (-1))]) rfl dX11_understudy_87 ?_
        refine st_iload rfl dX11_understudy_88 ?_
        refine st_istore (by decide) (lc' := [(2, 0), (0, x1), (0, x2), (0, x5), (0, (-1)), (0, x5), (0, (-1))]) rfl dX11_understudy_90 ?_
        refine st_iinc (y := (x5 + 1)) (by decide) (i := 5) rfl rfl (lc' := [(2, 0), (0, x1), (0, x2), (0, x5), (0, (-1)), (0, (x5 + 1)), (0, (-1))]) rfl dX11_understudy_92 ?_
        refine st_goto 36 (by decide) dX11_understudy_95 ?_
        exact st_locals [(2, 0), (0, x1), (0, x2), (0, x5), (0, (-1)), (0, (x5 + 1)), (9, 0)] ⟨Or.inr rfl, Or.inr rfl, Or.inr rfl, Or.inr rfl, Or.inr rfl, Or.inr rfl, Or.inl rfl, trivial⟩ (k2 h1 h3 h4)
    · have h3 : ((0 ≤ x5 ∧ x5 < 8) ∧ and32 (shr32 (actF (mem 23 1) (mem 24)) x5) 1 = 1) := h3
      refine st_aload_n (i := 0) rfl (t := 0) rfl (by decide) dX11_understudy_55 ?_
      refine so_getA 0 10 fr_X11_84_10 rfl sh_0 fx_0_10 dX11_understudy_56 ?_
      refine st_iload rfl dX11_understudy_59 ?_
      refine st_aload_n (i := 0) rfl (t := 0) rfl (by decide) dX11_understudy_61 ?_
      refine so_getA 0 6 fr_X11_58_10 rfl sh_0 fx_0_6 dX11_understudy_62 ?_
      refine so_getI (v := (mem 47 0)) 47 0 fr_X11_188_6 rfl sh_47 rfl dX11_understudy_65 (fun r1 => ?_)
      refine st_iload_n (i := 1) rfl rfl dX11_understudy_68 ?_
      refine st_callV (kc2 := 0) (ks2 := 0) (av := [(0, x5), (0, (mem 47 0)), (0, x1)]) 58 7 mr_X11_285 ok_X7_chanceIfSure (c1 h1 h3) rfl sh_58 ⟨_, rfl, rfl, by decide⟩ rfl rfl hd_d1 (Nat.le_refl 0) (Nat.le_refl 0) (Nat.le_of_ble_eq_true rfl) dX11_understudy_69 (mQ.elim fun v2 m2 p1 => ?_)
      refine st_goto 76 (by decide) dX11_understudy_72 ?_
      refine st_istore (by decide) (lc' := [(2, 0), (0, x1), (0, x2), (0, x3), (0, x4), (0, x5), (0, v2)]) rfl dX11_understudy_76 ?_
      refine st_iload rfl dX11_understudy_78 ?_
      refine st_iload rfl dX11_understudy_80 ?_
      refine sr_icmp_le 92 (s5 h1 h3 v2 m2 p1) (s6 h1 h3 v2 m2 p1) (by decide) dX11_understudy_82 (fun h5 => ?_) (fun h5 => ?_)
      · have h5 : v2 ≤ x4 := by omega
        refine st_iinc (y := (x5 + 1)) (by decide) (i := 5) rfl rfl (lc' := [(2, 0), (0, x1), (0, x2), (0, x3), (0, x4), (0, (x5 + 1)), (0, v2)]) rfl dX11_understudy_92 ?_
        refine st_goto 36 (by decide) dX11_understudy_95 ?_
        exact st_locals [(2, 0), (0, x1), (0, x2), (0, x3), (0, x4), (0, (x5 + 1)), (9, 0)] ⟨Or.inr rfl, Or.inr rfl, Or.inr rfl, Or.inr rfl, Or.inr rfl, Or.inr rfl, Or.inl rfl, trivial⟩ (k3 h1 h3 v2 m2 p1 h5)
      · have h5 : x4 < v2 := by omega
        refine st_iload rfl dX11_understudy_85 ?_
        refine st_istore_n (i := 3) rfl (by decide) (lc' := [(2, 0), (0, x1), (0, x2), (0, x5), (0, x4), (0, x5), (0, v2)]) rfl dX11_understudy_87 ?_
        refine st_iload rfl dX11_understudy_88 ?_
        refine st_istore (by decide) (lc' := [(2, 0), (0, x1), (0, x2), (0, x5), (0, v2), (0, x5), (0, v2)]) rfl dX11_understudy_90 ?_
        refine st_iinc (y := (x5 + 1)) (by decide) (i := 5) rfl rfl (lc' := [(2, 0), (0, x1), (0, x2), (0, x5), (0, v2), (0, (x5 + 1)), (0, v2)]) rfl dX11_understudy_92 ?_
        refine st_goto 36 (by decide) dX11_understudy_95 ?_
        exact st_locals [(2, 0), (0, x1), (0, x2), (0, x5), (0, v2), (0, (x5 + 1)), (9, 0)] ⟨Or.inr rfl, Or.inr rfl, Or.inr rfl, Or.inr rfl, Or.inr rfl, Or.inr rfl, Or.inl rfl, trivial⟩ (k4 h1 h3 v2 m2 p1 h5)
theorem c_X11_chance (mem : mmM) (x1 : Int) (h1 : R32 x1) (hp : nightP mem) (ho : odOr mem) : con 0 bX11_chance 7 [(2, 0), (0, x1)] mem (fun v m => v = (if mem 23 1 = 0 ∨ ¬ (1 ≤ x1 ∧ x1 ≤ 200) then -1 else (EX mem (mem 47 0) x1).2.1) ∧ oddQ mem m) := by
  have hn := hp.1.1
  refine cn_X11_chance (bk_X11_chance_0 (fun g g2 => c_X7_chanceWith mem (mem 47 0) x1 hp (by omega) ho (by omega)) (fun g => ⟨?_, fun a _ => rfl, ho⟩) (fun g g2 v m q => ⟨?_, q.2.1, q.2.2.1⟩) (fun g g2 => ⟨?_, fun a _ => rfl, ho⟩))
  · rw [if_pos (Or.inl g)]
  · rw [if_neg (by omega)]
    exact q.1
  · rw [if_pos (Or.inr g2)]
theorem c_X11_mean (mem : mmM) (x1 x2 : Int) (h1 : R32 x1) (h2 : R32 x2) (hp : nightP mem) (ho : odOr mem) : con 0 bX11_mean 7 [(2, 0), (0, x1), (0, x2)] mem (fun v m => v = (if (0 ≤ x1 ∧ x1 < mem 23 1) ∧ 1 ≤ x2 ∧ x2 ≤ 200 then (EX mem (mem 47 0) x2).2.2.1 x1 else -1) ∧ oddQ mem m) := by
  have hn := hp.1.1
  refine cn_X11_mean (bk_X11_mean_0 (fun g g2 => c_X7_chanceWith mem (mem 47 0) x2 hp (by omega) ho (by omega)) (fun g => ⟨?_, fun a _ => rfl, ho⟩) (fun g g2 v m q => ⟨?_, q.2.1, q.2.2.1⟩) (fun g g2 => ⟨?_, fun a _ => rfl, ho⟩))
  · rw [if_neg (fun z => g z.1)]
  · rw [if_pos ⟨g, g2⟩]
    exact (q.2.2.2 x1 g.1 g.2).1
  · rw [if_neg (fun z => g2 z.2)]
/-- whom to take: the greatest -/
def undG (act : Int) (E : Int → Int) (p : Int × Int) (a : Int) : Int × Int := if and32 (shr32 act a) 1 = 1 ∧ p.2 < E a then (a, E a) else p
def undF (act : Int) (E : Int → Int) : Int × Int := foldTo (undG act E) (-1, -1) 8
theorem undG_bnd {act : Int} {E : Int → Int} (hE : ∀ a, 0 ≤ E a ∧ E a ≤ 1000000000) (p : Int × Int) (a i : Int) (h0 : 0 ≤ a) (h : (p.1 = -1 ∧ p.2 = -1) ∨ (0 ≤ p.1 ∧ 0 ≤ p.2 ∧ p.2 ≤ 1000000000)) : ((undG act E p a).1 = -1 ∧ (undG act E p a).2 = -1) ∨ (0 ≤ (undG act E p a).1 ∧ 0 ≤ (undG act E p a).2 ∧ (undG act E p a).2 ≤ 1000000000) := by
  unfold undG
  have := hE a
  split
  · exact Or.inr ⟨h0, this⟩
  · exact h
theorem undF_some {act : Int} {E : Int → Int} (hE : ∀ a, 0 ≤ E a ∧ E a ≤ 1000000000) (b : Int) (hb : 0 ≤ b ∧ b < 8) (h : and32 (shr32 act b) 1 = 1) : ¬ (undF act E).1 = -1 := by
  have := foldTo_inv (g := undG act E) (z := (-1, -1)) (n := 8) (fun i p => ((p.1 = -1 ∧ p.2 = -1) ∨ (0 ≤ p.1 ∧ 0 ≤ p.2 ∧ p.2 ≤ 1000000000)) ∧ (b < i → ¬ p.1 = -1)) ⟨Or.inl ⟨rfl, rfl⟩, fun z => by omega⟩ (fun i p i0 i1 hi => by
    refine ⟨undG_bnd hE p i 0 i0 hi.1, fun z => ?_⟩
    by_cases e : i = b
    · subst e
      unfold undG
      have := hE i
      split
      · show ¬ i = -1
        omega
      · rename_i w
        rcases hi.1 with q | q
        · exact absurd ⟨h, by omega⟩ w
        · omega
    · have := hi.2 (by omega)
      unfold undG
      split
      · show ¬ i = -1
        omega
      · exact this)
  exact this.2 (by show b < 8; omega)
theorem c_X11_understudy (mem : mmM) (x1 x2 : Int) (h1 : R32 x1) (h2 : R32 x2) (hp : nightP mem) (ho : odOr mem) : con 0 bX11_understudy 7 [(2, 0), (0, x1), (0, x2)] mem (fun v m => v = (if mem 23 1 = 0 ∨ ¬ (1 ≤ x1 ∧ x1 ≤ 200) ∨ ¬ (0 ≤ x2 ∧ x2 ≤ 1) then -1 else if x2 = 0 then (undF (actF (mem 23 1) (mem 24)) (fun a => (ESX mem (mem 47 0) a x1).2.1)).1 else (undF (actF (mem 23 1) (mem 24)) (fun a => (ESX mem (mem 47 0) a x1).2.1)).2) ∧ oddQ mem m) := by
  have hn := hp.1.1
  refine cn_X11_understudy (bk_X11_understudy_0 (fun g g2 g3 g4 => ?_) (fun g => ⟨?_, fun a _ => rfl, ho⟩) (fun g g2 => ⟨?_, fun a _ => rfl, ho⟩) (fun g g2 g3 => ⟨?_, fun a _ => rfl, ho⟩) (fun g g2 g3 g4 => ⟨?_, fun a _ => rfl, ho⟩))
  rotate_left
  · rw [if_pos (by omega)]
  · rw [if_pos (by omega)]
  · rw [if_pos (by omega)]
  · rw [if_pos (by omega)]
  rw [if_neg (by omega)]
  have hE : ∀ a, 0 ≤ (ESX mem (mem 47 0) a x1).2.1 ∧ (ESX mem (mem 47 0) a x1).2.1 ≤ 1000000000 := fun a => ESX_ok hp (by omega) _ _ _
  refine loop_up (n := 8) (fun i => ∀ (m : mmM) (p q : Int), oddQ mem m → (p, q) = foldTo (undG (actF (mem 23 1) (mem 24)) (fun a => (ESX mem (mem 47 0) a x1).2.1)) (-1, -1) i.toNat → ((p = -1 ∧ q = -1) ∨ (0 ≤ p ∧ 0 ≤ q ∧ q ≤ 1000000000)) → mmT bX11_understudy 7 0 0 (mQ 0 (fun v m => v = (if x2 = 0 then (undF (actF (mem 23 1) (mem 24)) (fun a => (ESX mem (mem 47 0) a x1).2.1)).1 else (undF (actF (mem 23 1) (mem 24)) (fun a => (ESX mem (mem 47 0) a x1).2.1)).2) ∧ oddQ mem m)) 36 [(2, 0), (0, x1), (0, x2), (0, p), (0, q), (0, i), (9, 0)] [] mS m) (fun i h0 h8 ih m p q f hf hb => ?_) 0 (by omega) (by omega) mem (-1) (-1) ⟨fun a _ => rfl, ho⟩ rfl (Or.inl ⟨rfl, rfl⟩)
  have e23 : m 23 = mem 23 := f.1 23 (by omega)
  have e24 : m 24 = mem 24 := f.1 24 (by omega)
  have e47 : m 47 = mem 47 := f.1 47 (by omega)
  have st := foldTo_step (undG (actF (mem 23 1) (mem 24)) (fun a => (ESX mem (mem 47 0) a x1).2.1)) (-1, -1) h0
  rw [← hf] at st
  have gb := undG_bnd (act := actF (mem 23 1) (mem 24)) hE (p, q) i 0 h0 hb
  have nx : ∀ (m' : mmM) (p' q' : Int), i < 8 → oddQ mem m' → undG (actF (mem 23 1) (mem 24)) (fun a => (ESX mem (mem 47 0) a x1).2.1) (p, q) i = (p', q') → mmT bX11_understudy 7 0 0 (mQ 0 (fun v m => v = (if x2 = 0 then (undF (actF (mem 23 1) (mem 24)) (fun a => (ESX mem (mem 47 0) a x1).2.1)).1 else (undF (actF (mem 23 1) (mem 24)) (fun a => (ESX mem (mem 47 0) a x1).2.1)).2) ∧ oddQ mem m)) 36 [(2, 0), (0, x1), (0, x2), (0, p'), (0, q'), (0, i + 1), (9, 0)] [] mS m' := by
    intro m' p' q' g f' e
    rw [e] at st gb
    exact ih g m' p' q' f' st.symm gb
  refine bk_X11_understudy_36 (d1 := 6) (P1 := fun v m' => v = (ESX mem (mem 47 0) i x1).2.1 ∧ oddQ mem m') (fun g g2 => ?_) (fun g g2 g3 => nx m p q g f ?_) (fun g g2 g3 => by omega) (fun g g2 v m' w g3 => nx m' p q g w.2 ?_) (fun g g2 v m' w g3 => nx m' i v g w.2 ?_) (fun g g2 => ⟨?_, f⟩) (fun g g2 => ⟨?_, f⟩) (s3 := fun _ => by rw [e23]; exact hn) (s5 := fun _ _ v m' w => by have := hE i; rw [w.1]; omega) (s4 := fun _ _ => by omega) (s6 := fun _ _ _ _ _ => by omega)
  · have c := c_X7_chanceIfSure m i (m 47 0) x1 (by omega) (f.1.night hp) (by rw [e23]; omega) f.2 (by omega)
    rw [e47] at c ⊢
    exact con.mono c (fun v m' w => ⟨w.1.trans (congrArg (fun z : odU => z.2.1) (f.1.esx (mem 47 0) i x1)), f.1.trans w.2.1, w.2.2⟩)
  · rw [e23, e24] at g2
    unfold undG
    exact if_neg (fun z => g2 ⟨⟨h0, g⟩, z.1⟩)
  · unfold undG
    exact if_neg (fun z => by have z2 : q < (ESX mem (mem 47 0) i x1).2.1 := z.2; have := w.1; omega)
  · rw [e23, e24] at g2
    unfold undG
    rw [if_pos ⟨g2.2, by show q < (ESX mem (mem 47 0) i x1).2.1; have := w.1; omega⟩, w.1]
  · rw [if_neg g2]
    rw [show i = 8 by omega] at hf
    have hf' : (p, q) = undF (actF (mem 23 1) (mem 24)) (fun a => (ESX mem (mem 47 0) a x1).2.1) := hf
    rw [← hf']
  · rw [if_pos g2]
    rw [show i = 8 by omega] at hf
    have hf' : (p, q) = undF (actF (mem 23 1) (mem 24)) (fun a => (ESX mem (mem 47 0) a x1).2.1) := hf
    rw [← hf']
def wrsG (mk : Int) (E : Int → Int) (p : Int × Int) (s : Int) : Int × Int := if ¬ (and32 (shr32 mk s) 1 = 1) ∧ p.2 < E (mk + p2 s) then (s, E (mk + p2 s)) else p
def wrsF (n mk : Int) (E : Int → Int) : Int × Int := foldTo (wrsG mk E) (-1, -1) n.toNat
theorem wrsG_bnd {mk : Int} {E : Int → Int} (hE : ∀ a, 0 ≤ E a ∧ E a ≤ 1000000000) (p : Int × Int) (a : Int) (h0 : 0 ≤ a) (h : (p.1 = -1 ∧ p.2 = -1) ∨ (0 ≤ p.1 ∧ 0 ≤ p.2 ∧ p.2 ≤ 1000000000)) (h1 : p.1 ≤ a) : (((wrsG mk E p a).1 = -1 ∧ (wrsG mk E p a).2 = -1) ∨ (0 ≤ (wrsG mk E p a).1 ∧ 0 ≤ (wrsG mk E p a).2 ∧ (wrsG mk E p a).2 ≤ 1000000000)) ∧ (wrsG mk E p a).1 ≤ a + 1 := by
  unfold wrsG
  have := hE (mk + p2 a)
  split
  · exact ⟨Or.inr ⟨h0, this⟩, by show a ≤ a + 1; omega⟩
  · exact ⟨h, by omega⟩