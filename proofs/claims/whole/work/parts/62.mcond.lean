/-! the model reads conditions: units -/
theorem cn_X12_goOnOr {d : Nat} {P : mmM → Prop} {mem : mmM} (h : mmT bX12_goOnOr d 0 0 (mQv P) 0 [(2, 65)] [] mS mem) : conv bX12_goOnOr d [(2, 65)] mem P := mmC_of [(2, 65)] ok_X12_goOnOr.2.2.2.2 rfl (Nat.le_of_ble_eq_true rfl) h
theorem bk_X12_goOnOr_0 {d : Nat} {d1 : Nat} {P1 : mmM → Prop} {d2 : Nat} {P2 : mmM → Prop} {P : mmM → Prop} {mem : mmM}
  (c1 : (mem 65 4) = (-1) → (hereM (lookM mem)) = 124 → conv bX12_unit d1 [(2, 65)] (mset (lookM mem) 65 3 (((lookM mem) 65 3) + 1)) P1)
  (c2 : (mem 65 4) = (-1) → (hereM (lookM mem)) = 124 → ∀ (m2 : mmM), P1 m2 → conv bX12_goOnAnd d2 [(2, 65)] m2 P2)
  (k1 : (mem 65 4) = (-1) → (hereM (lookM mem)) = 124 → ∀ (m2 : mmM), P1 m2 → ∀ (m3 : mmM), P2 m3 → mmT bX12_goOnOr d 0 0 (mQv P) 0 [(2, 65)] [] mS (putM m3 11 0))
  (q1 : ¬ (mem 65 4) = (-1) → P mem)
  (q2 : (mem 65 4) = (-1) → ¬ (hereM (lookM mem)) = 124 → P (lookM mem))
  (hd_d1 : d1 + 1 ≤ d := by omega)
  (hd_d2 : d2 + 1 ≤ d := by omega)
  (hd1 : 1 ≤ d := by omega)
  (hd2 : 2 ≤ d := by omega)
  (s1 : (mem 65 4) = (-1) → bytM mem := by intros; first | omega | assumption | solve_by_elim)
  (s2 : (mem 65 4) = (-1) → 0 ≤ (mem 65 3) := by intros; first | omega | assumption | solve_by_elim)
  (s3 : (mem 65 4) = (-1) → (hereM (lookM mem)) = 124 → R32 (((lookM mem) 65 3) + 1) := by intros; first | omega | assumption | solve_by_elim)
  (s4 : (mem 65 4) = (-1) → (hereM (lookM mem)) = 124 → ∀ (m2 : mmM), P1 m2 → ∀ (m3 : mmM), P2 m3 → putOK m3 := by intros; first | omega | assumption | solve_by_elim)
  : mmT bX12_goOnOr d 0 0 (mQv P) 0 [(2, 65)] [] mS mem := by
  refine st_aload_n (i := 0) rfl (t := 0) rfl (by decide) dX12_goOnOr_0 ?_
  refine so_getI (v := (mem 65 4)) 65 4 fr_X12_131_11 rfl sh_65 rfl dX12_goOnOr_1 (fun r1 => ?_)
  refine st_iconst dX12_goOnOr_4 ?_
  refine sr_icmp_ne 45 r1 ⟨by decide, by decide⟩ (by decide) dX12_goOnOr_5 (fun h1 => ?_) (fun h1 => ?_)
  · have h1 : ¬ (mem 65 4) = (-1) := by omega
    exact st_return rfl dX12_goOnOr_45 (mQv.ret (q1 h1))
  · have h1 : (mem 65 4) = (-1) := by omega
    refine st_aload_n (i := 0) rfl (t := 0) rfl (by decide) dX12_goOnOr_8 ?_
    refine st_callV (kc2 := 0) (ks2 := 0) (av := []) 65 11 mr_X12_143 ok_X12_look (c_X12_look mem ((s1 h1)) ((s2 h1))) rfl sh_65 ⟨_, rfl, rfl, by decide⟩ rfl rfl hd2 (Nat.le_refl 0) (Nat.le_refl 0) (Nat.le_of_ble_eq_true rfl) dX12_goOnOr_9 (mQ.elim fun v1 m1 hp => ?_)
    obtain ⟨hpv, hpm⟩ := hp
    subst hpv
    have hpm := hpm.symm
    subst hpm
    refine st_bipush rfl dX12_goOnOr_12 ?_
    refine sr_icmp_ne 45 (lookM_rng mem ((s1 h1)) ((s2 h1))) ⟨by decide, by decide⟩ (by decide) dX12_goOnOr_14 (fun h2 => ?_) (fun h2 => ?_)
    · have h2 : ¬ (hereM (lookM mem)) = 124 := by omega
      exact st_return rfl dX12_goOnOr_45 (mQv.ret (q2 h1 h2))
    · have h2 : (hereM (lookM mem)) = 124 := by omega
      refine st_aload_n (i := 0) rfl (t := 0) rfl (by decide) dX12_goOnOr_17 ?_
      refine st_dup (Nat.ne_of_beq_eq_false rfl) dX12_goOnOr_18 ?_
      refine so_getI (v := ((lookM mem) 65 3)) 65 3 fr_X12_124_11 rfl sh_65 rfl dX12_goOnOr_19 (fun r2 => ?_)
      refine st_iconst dX12_goOnOr_22 ?_
      refine st_iadd dX12_goOnOr_23 ?_
      refine so_putI 65 3 fr_X12_124_11 pf_11_3 fo_65_3 rfl sh_65 (s3 h1 h2) dX12_goOnOr_24 ?_
      refine st_aload_n (i := 0) rfl (t := 0) rfl (by decide) dX12_goOnOr_27 ?_
      refine st_callV (kc2 := 0) (ks2 := 0) (av := []) 65 11 mr_X12_180 ok_X12_unit (c1 h1 h2) rfl sh_65 ⟨_, rfl, rfl, by decide⟩ rfl rfl hd_d1 (Nat.le_refl 0) (Nat.le_refl 0) (Nat.le_of_ble_eq_true rfl) dX12_goOnOr_28 (mQv.elim fun m2 p1 => ?_)
      refine st_aload_n (i := 0) rfl (t := 0) rfl (by decide) dX12_goOnOr_31 ?_
      refine st_callV (kc2 := 0) (ks2 := 0) (av := []) 65 11 mr_X12_189 ok_X12_goOnAnd (c2 h1 h2 m2 p1) rfl sh_65 ⟨_, rfl, rfl, by decide⟩ rfl rfl hd_d2 (Nat.le_refl 0) (Nat.le_refl 0) (Nat.le_of_ble_eq_true rfl) dX12_goOnOr_32 (mQv.elim fun m3 p2 => ?_)
      refine st_aload_n (i := 0) rfl (t := 0) rfl (by decide) dX12_goOnOr_35 ?_
      refine st_bipush rfl dX12_goOnOr_36 ?_
      refine st_iconst dX12_goOnOr_38 ?_
      refine st_callV (kc2 := 0) (ks2 := 0) (av := [(0, 11), (0, 0)]) 65 11 mr_X12_153 ok_X12_put (c_X12_put m3 11 0 (⟨by decide, by decide⟩) (⟨by decide, by decide⟩) ((s4 h1 h2 m2 p1 m3 p2))) rfl sh_65 ⟨_, rfl, rfl, by decide⟩ rfl rfl hd1 (Nat.le_refl 0) (Nat.le_refl 0) (Nat.le_of_ble_eq_true rfl) dX12_goOnOr_39 (mQv.elim fun m4 hp => ?_)
      have hp := hp.symm
      subst hp
      refine st_goto 0 (by decide) dX12_goOnOr_42 ?_
      exact st_locals [(2, 65)] ⟨Or.inr rfl, trivial⟩ (k1 h1 h2 m2 p1 m3 p2)
theorem am_Or (F : mmM → Int → PR) (dp : Int) (dU : Nat) (hd : 1 ≤ dU) (hU : ∀ m, preM m → m 65 5 = dp → conv bX12_unit dU [(2, 65)] m (resM m (F m (m 65 3)))) (hF : ∀ mem m, lmFr mem m → F m = F mem) (hg : ∀ m, bytM m → goodP (m 65 2) (F m)) (mem : mmM) (hp : preM mem) (h5 : mem 65 5 = dp) (R0 : PR) (hG : gdR (mem 65 2) (mem 65 3) R0) (m0 : mmM) (h0 : resM mem R0 m0) : conv bX12_goOnOr (dU + 2) [(2, 65)] m0 (resM mem (goP (CM mem) (SM mem) opO (truthO (CM mem) (SM mem) (F mem)) R0)) := by
  obtain ⟨hb, hw, p3, p14, pc, pd⟩ := id hp
  have hn := hb.1
  have gT : goodP (mem 65 2) (truthO (CM mem) (SM mem) (F mem)) := good_chain (tapM_P mem) (fun _ _ h => (opA_pos h).1) (hg mem hb)
  have stop : ∀ (R : PR) (f : Int) (m : mmM), failM mem f 0 m → R = .inl f → mmT bX12_goOnOr (dU + 2) 0 0 (mQv (resM mem R)) 0 [(2, 65)] [] mS m := by
    intro R f m h e
    have ne : ¬ m 65 4 = -1 := by
      have := h.1
      have := h.2.1
      omega
    rw [e]
    exact bk_X12_goOnOr_0 (d1 := 0) (d2 := 0) (P1 := fun _ => True) (P2 := fun _ => True) (fun g => absurd g ne) (fun g => absurd g ne) (fun g => absurd g ne) (fun _ => h) (fun g => absurd g ne) (s1 := fun g => absurd g ne) (s2 := fun g => absurd g ne) (s3 := fun g => absurd g ne) (s4 := fun g => absurd g ne)
  have main : ∀ (k : Nat) (R : PR) (m : mmM) (j : Int) (ts : List tokT), doneM mem j ts m → (mem 65 3 < j ∧ j ≤ mem 65 2 ∧ (ts.length : Int) ≤ j - mem 65 3) → mem 65 2 - j < k → R = loopP (CM mem) (SM mem) opO (truthO (CM mem) (SM mem) (F mem)) k j ts → mmT bX12_goOnOr (dU + 2) 0 0 (mQv (resM mem R)) 0 [(2, 65)] [] mS m := by
    intro k R
    induction k with
    | zero =>
      intro m j ts _ _ h
      omega
    | succ k ih =>
      intro m j ts hm hj hk hR
      obtain ⟨a1, a2, a3, a4, a5, -, -⟩ := id hm
      have ge := SM_ge mem j
      have le := SM_le (m := mem) (i := j) hj.2.1
      obtain ⟨s, hs⟩ : ∃ s, SM mem j = s := ⟨_, rfl⟩
      rw [hs] at ge le
      have lk : lookM m = cuM m s := by
        unfold lookM
        rw [lmFr_S a2, a3, hs]
      have i124 := hereM_is m (j := s) (c := 124) (by omega) (by decide)
      rw [lmFr_C a2] at i124
      have ho : CM mem s = 124 → opO (CM mem (SM mem j)) = some 11 := fun z => by rw [hs, z]; rfl
      have fr1 := lmFr_trans a2 (lmFr_cu m (s + 1))
      have l' : CM mem s = 124 → s < mem 65 2 := fun z => chT_in (T := mem 66) (show 0 < CM mem s by omega)
      have pre : CM mem s = 124 → preM (cuM m (s + 1)) := fun z => preM_cu hp hm (s := s + 1) (by have := l' z; omega)
      have d5 : cuM m (s + 1) 65 5 = dp := by rw [cuM_65 _ _ (by decide), a4, h5]
      have fin : ∀ m3, CM mem s = 124 → resM (cuM m (s + 1)) (truthO (CM mem) (SM mem) (F mem) (s + 1)) m3 → putOK m3 ∧ mmT bX12_goOnOr (dU + 2) 0 0 (mQv (resM mem R)) 0 [(2, 65)] [] mS (putM m3 11 0) := by
        intro m3 z w1
        have l := l' z
        cases hf : truthO (CM mem) (SM mem) (F mem) (s + 1) with
        | inl f =>
          rw [hf] at w1
          have fl := failM_app hm (k := 1) (s := s + 1) (by omega) (by omega) w1
          have ok := putOK_fail hp fl (by decide)
          refine ⟨ok, stop R f _ (failM_put fl ok) ?_⟩
          rw [hR]
          exact loopP_bad (ho z) (by rw [hs]; exact hf)
        | inr x =>
          obtain ⟨q, us⟩ := x
          rw [hf] at w1
          have gd := (gT (s + 1) (by omega) (by omega)).2 q us hf
          have w2 := doneM_app (doneM_cu hm (s + 1)) w1
          have ll : (((ts ++ us).length : Nat) : Int) = ts.length + us.length := by
            rw [List.length_append]
            omega
          have ok := putOK_done hp w2 (by omega)
          have w3 := doneM_put (c := 11) (v := 0) w2 ok
          refine ⟨ok, ih _ q (ts ++ us ++ [(11, 0)]) w3 ⟨by omega, by omega, ?_⟩ (by omega) ?_⟩
          · rw [List.length_append, List.length_singleton]
            omega
          · rw [hR]
            exact loopP_yes (ho z) (by rw [hs]; exact hf)
      refine bk_X12_goOnOr_0 (d1 := dU) (d2 := dU + 1) (P1 := fun m1 => CM mem s = 124 ∧ resM (cuM m (s + 1)) (F mem (s + 1)) m1) (P2 := fun m1 => CM mem s = 124 ∧ resM (cuM m (s + 1)) (truthO (CM mem) (SM mem) (F mem) (s + 1)) m1) (fun _ g => ?_) (fun _ g m1 w1 => ?_) (fun _ g m1 w1 m3 w3 => (fin m3 w3.1 w3.2).2) (fun g => absurd a1 g) (fun _ g => ?_) (s1 := fun _ => lmFr_B a2 hb) (s2 := fun _ => by omega) (s3 := fun _ g => by rw [lk, cuM_at]; exact ⟨by omega, by omega⟩) (s4 := fun _ g m1 w1 m3 w3 => (fin m3 w3.1 w3.2).1)
      · rw [lk] at g ⊢
        rw [cuM_at, cuM_mset]
        have z := i124.mp g
        have at1 := hU (cuM m (s + 1)) (pre z) d5
        rw [hF mem _ fr1, cuM_at] at at1
        exact conv.mono at1 (fun m' w => ⟨z, w⟩)
      · obtain ⟨z, w1⟩ := w1
        have l := l' z
        have gd := hg mem hb (s + 1) (by omega) (by omega)
        have an := am_And F dp dU hd hU hF hg (cuM m (s + 1)) (pre z) d5 (F mem (s + 1)) (by rw [cuM_65 _ _ (by decide), lmFr_2 a2, cuM_at]; exact gd) m1 w1
        rw [lmFr_C fr1, lmFr_S fr1, hF mem _ fr1] at an
        exact conv.mono an (fun m' w => ⟨z, by unfold truthO; rw [chainP_go]; exact w⟩)
      · rw [lk] at g ⊢
        have no : opO (CM mem (SM mem j)) = none := by
          rw [hs]
          exact if_neg (fun z => g (i124.mpr z))
        rw [hR, loopP_no no, hs]
        exact doneM_cu hm s
  refine cn_X12_goOnOr ?_
  cases R0 with
  | inl f => exact stop _ f m0 h0 rfl
  | inr x =>
    obtain ⟨q, ts⟩ := x
    have gd := hG.2 q ts rfl
    exact main 200 _ m0 q ts h0 ⟨by omega, by omega, by omega⟩ (by omega) rfl
theorem cn_X12_condition {d : Nat} {P : mmM → Prop} {mem : mmM} (h : mmT bX12_condition d 0 0 (mQv P) 0 [(2, 65)] [] mS mem) : conv bX12_condition d [(2, 65)] mem P := mmC_of [(2, 65)] ok_X12_condition.2.2.2.2 rfl (Nat.le_of_ble_eq_true rfl) h
theorem bk_X12_condition_0 {d : Nat} {d1 : Nat} {P1 : mmM → Prop} {d2 : Nat} {P2 : mmM → Prop} {d3 : Nat} {P3 : mmM → Prop} {P : mmM → Prop} {mem : mmM}
  (c1 : conv bX12_unit d1 [(2, 65)] mem P1)
  (c2 : ∀ (m1 : mmM), P1 m1 → conv bX12_goOnAnd d2 [(2, 65)] m1 P2)
  (c3 : ∀ (m1 : mmM), P1 m1 → ∀ (m2 : mmM), P2 m2 → conv bX12_goOnOr d3 [(2, 65)] m2 P3)
  (q1 : ∀ (m1 : mmM), P1 m1 → ∀ (m2 : mmM), P2 m2 → ∀ (m3 : mmM), P3 m3 → P m3)
  (hd_d1 : d1 + 1 ≤ d := by omega)
  (hd_d2 : d2 + 1 ≤ d := by omega)
  (hd_d3 : d3 + 1 ≤ d := by omega)
  : mmT bX12_condition d 0 0 (mQv P) 0 [(2, 65)] [] mS mem := by
  refine st_aload_n (i := 0) rfl (t := 0) rfl (by decide) dX12_condition_0 ?_
  refine st_callV (kc2 := 0) (ks2 := 0) (av := []) 65 11 mr_X12_180 ok_X12_unit c1 rfl sh_65 ⟨_, rfl, rfl, by decide⟩ rfl rfl hd_d1 (Nat.le_refl 0) (Nat.le_refl 0) (Nat.le_of_ble_eq_true rfl) dX12_condition_1 (mQv.elim fun m1 p1 => ?_)
  refine st_aload_n (i := 0) rfl (t := 0) rfl (by decide) dX12_condition_4 ?_
  refine st_callV (kc2 := 0) (ks2 := 0) (av := []) 65 11 mr_X12_189 ok_X12_goOnAnd (c2 m1 p1) rfl sh_65 ⟨_, rfl, rfl, by decide⟩ rfl rfl hd_d2 (Nat.le_refl 0) (Nat.le_refl 0) (Nat.le_of_ble_eq_true rfl) dX12_condition_5 (mQv.elim fun m2 p2 => ?_)
  refine st_aload_n (i := 0) rfl (t := 0) rfl (by decide) dX12_condition_8 ?_
  refine st_callV (kc2 := 0) (ks2 := 0) (av := []) 65 11 mr_X12_192 ok_X12_goOnOr (c3 m1 p1 m2 p2) rfl sh_65 ⟨_, rfl, rfl, by decide⟩ rfl rfl hd_d3 (Nat.le_refl 0) (Nat.le_refl 0) (Nat.le_of_ble_eq_true rfl) dX12_condition_9 (mQv.elim fun m3 p3 => ?_)
  exact st_return rfl dX12_condition_12 (mQv.ret (q1 m1 p1 m2 p2 m3 p3))
theorem am_Cond (F : mmM → Int → PR) (dp : Int) (dU : Nat) (hd : 1 ≤ dU) (hU : ∀ m, preM m → m 65 5 = dp → conv bX12_unit dU [(2, 65)] m (resM m (F m (m 65 3)))) (hF : ∀ mem m, lmFr mem m → F m = F mem) (hg : ∀ m, bytM m → goodP (m 65 2) (F m)) (mem : mmM) (hp : preM mem) (h5 : mem 65 5 = dp) : conv bX12_condition (dU + 3) [(2, 65)] mem (resM mem (condO (CM mem) (SM mem) (F mem) (mem 65 3))) := by
  have hb := hp.1
  have p3 := hp.2.2.1
  have gU := hg mem hb (mem 65 3) p3.1 p3.2
  have gA := good_go (tapM_P mem) (fun _ _ h => (opA_pos h).1) (hg mem hb) p3.1 gU
  have e : condO (CM mem) (SM mem) (F mem) (mem 65 3) = goP (CM mem) (SM mem) opO (truthO (CM mem) (SM mem) (F mem)) (goP (CM mem) (SM mem) opA (F mem) (F mem (mem 65 3))) := by
    unfold condO
    rw [chainP_go]
    unfold truthO
    rw [chainP_go]
  rw [e]
  exact cn_X12_condition (bk_X12_condition_0 (d1 := dU) (d2 := dU + 1) (d3 := dU + 2) (P1 := resM mem (F mem (mem 65 3))) (P2 := resM mem (goP (CM mem) (SM mem) opA (F mem) (F mem (mem 65 3)))) (P3 := resM mem (goP (CM mem) (SM mem) opO (truthO (CM mem) (SM mem) (F mem)) (goP (CM mem) (SM mem) opA (F mem) (F mem (mem 65 3))))) (hU mem hp h5) (fun m1 w1 => am_And F dp dU hd hU hF hg mem hp h5 _ gU m1 w1) (fun m1 w1 m2 w2 => am_Or F dp dU hd hU hF hg mem hp h5 _ gA m2 w2) (fun m1 w1 m2 w2 m3 w3 => w3))
theorem cn_X12_unit {d : Nat} {P : mmM → Prop} {mem : mmM} (h : mmT bX12_unit d 0 0 (mQv P) 0 [(2, 65), (9, 0)] [] mS mem) : conv bX12_unit d [(2, 65)] mem P := mmC_of [(2, 65), (9, 0)] ok_X12_unit.2.2.2.2 rfl (Nat.le_of_ble_eq_true rfl) h
theorem bk_X12_unit_0 {d : Nat} {d1 : Nat} {P1 : mmM → Prop} {d2 : Nat} {P2 : mmM → Prop} {d3 : Nat} {P3 : mmM → Prop} {d4 : Nat} {P4 : mmM → Prop} {P : mmM → Prop} {mem : mmM}
  (c1 : ¬ (hereM (lookM mem)) = 33 → ¬ (hereM (lookM mem)) = 40 → conv bX12_sum d1 [(2, 65)] (lookM mem) P1)
  (c2 : ¬ (hereM (lookM mem)) = 33 → ¬ (hereM (lookM mem)) = 40 → ∀ (m2 : mmM), P1 m2 → (m2 65 4) = (-1) → conv bX12_compare d2 [(2, 65)] m2 P2)
  (c3 : ¬ (hereM (lookM mem)) = 33 → (hereM (lookM mem)) = 40 → ((opensM (lookM mem)) 65 4) = (-1) → conv bX12_condition d3 [(2, 65)] (opensM (lookM mem)) P3)
  (c4 : (hereM (lookM mem)) = 33 → ((opensM (lookM mem)) 65 4) = (-1) → conv bX12_unit d4 [(2, 65)] (opensM (lookM mem)) P4)
  (q1 : ¬ (hereM (lookM mem)) = 33 → ¬ (hereM (lookM mem)) = 40 → ∀ (m2 : mmM), P1 m2 → ¬ (m2 65 4) = (-1) → P m2)
  (q2 : ¬ (hereM (lookM mem)) = 33 → ¬ (hereM (lookM mem)) = 40 → ∀ (m2 : mmM), P1 m2 → (m2 65 4) = (-1) → ∀ (m3 : mmM), P2 m3 → P m3)
  (q3 : ¬ (hereM (lookM mem)) = 33 → (hereM (lookM mem)) = 40 → ¬ ((opensM (lookM mem)) 65 4) = (-1) → P (opensM (lookM mem)))
  (q4 : ¬ (hereM (lookM mem)) = 33 → (hereM (lookM mem)) = 40 → ((opensM (lookM mem)) 65 4) = (-1) → ∀ (m5 : mmM), P3 m5 → P (closM m5 41))
  (q5 : (hereM (lookM mem)) = 33 → ¬ ((opensM (lookM mem)) 65 4) = (-1) → P (opensM (lookM mem)))
  (q6 : (hereM (lookM mem)) = 33 → ((opensM (lookM mem)) 65 4) = (-1) → ∀ (m8 : mmM), P4 m8 → P (mset (putM m8 9 0) 65 5 (((putM m8 9 0) 65 5) - 1)))
  (hd_d1 : d1 + 1 ≤ d := by omega)
  (hd_d2 : d2 + 1 ≤ d := by omega)
  (hd_d3 : d3 + 1 ≤ d := by omega)
  (hd_d4 : d4 + 1 ≤ d := by omega)
  (hd1 : 1 ≤ d := by omega)
  (hd2 : 2 ≤ d := by omega)
  (hd3 : 3 ≤ d := by omega)
  (s1 : bytM mem := by intros; first | omega | assumption | solve_by_elim)
  (s2 : 0 ≤ (mem 65 3) := by intros; first | omega | assumption | solve_by_elim)
  (s3 : ¬ (hereM (lookM mem)) = 33 → (hereM (lookM mem)) = 40 → opOK (lookM mem) := by intros; first | omega | assumption | solve_by_elim)
  (s4 : ¬ (hereM (lookM mem)) = 33 → (hereM (lookM mem)) = 40 → ((opensM (lookM mem)) 65 4) = (-1) → ∀ (m5 : mmM), P3 m5 → clOK m5 := by intros; first | omega | assumption | solve_by_elim)
  (s5 : (hereM (lookM mem)) = 33 → opOK (lookM mem) := by intros; first | omega | assumption | solve_by_elim)
  (s6 : (hereM (lookM mem)) = 33 → ((opensM (lookM mem)) 65 4) = (-1) → ∀ (m8 : mmM), P4 m8 → putOK m8 := by intros; first | omega | assumption | solve_by_elim)
  (s7 : (hereM (lookM mem)) = 33 → ((opensM (lookM mem)) 65 4) = (-1) → ∀ (m8 : mmM), P4 m8 → R32 (((putM m8 9 0) 65 5) - 1) := by intros; first | omega | assumption | solve_by_elim)
  : mmT bX12_unit d 0 0 (mQv P) 0 [(2, 65), (9, 0)] [] mS mem := by
  refine st_aload_n (i := 0) rfl (t := 0) rfl (by decide) dX12_unit_0 ?_
  refine st_callV (kc2 := 0) (ks2 := 0) (av := []) 65 11 mr_X12_143 ok_X12_look (c_X12_look mem (s1) (s2)) rfl sh_65 ⟨_, rfl, rfl, by decide⟩ rfl rfl hd2 (Nat.le_refl 0) (Nat.le_refl 0) (Nat.le_of_ble_eq_true rfl) dX12_unit_1 (mQ.elim fun v1 m1 hp => ?_)
  obtain ⟨hpv, hpm⟩ := hp
  subst hpv
  have hpm := hpm.symm
  subst hpm
  refine st_istore_n (i := 1) rfl (by decide) (lc' := [(2, 65), (0, (hereM (lookM mem)))]) rfl dX12_unit_4 ?_
  refine st_iload_n (i := 1) rfl rfl dX12_unit_5 ?_
  refine st_bipush rfl dX12_unit_6 ?_
  refine sr_icmp_ne 47 (lookM_rng mem (s1) (s2)) ⟨by decide, by decide⟩ (by decide) dX12_unit_8 (fun h1 => ?_) (fun h1 => ?_)
  · have h1 : ¬ (hereM (lookM mem)) = 33 := by omega
    refine st_iload_n (i := 1) rfl rfl dX12_unit_47 ?_
    refine st_bipush rfl dX12_unit_48 ?_
    refine sr_icmp_ne 78 (lookM_rng mem (s1) (s2)) ⟨by decide, by decide⟩ (by decide) dX12_unit_50 (fun h2 => ?_) (fun h2 => ?_)
    · have h2 : ¬ (hereM (lookM mem)) = 40 := by omega
      refine st_aload_n (i := 0) rfl (t := 0) rfl (by decide) dX12_unit_78 ?_
      refine st_callV (kc2 := 0) (ks2 := 0) (av := []) 65 11 mr_X12_164 ok_X12_sum (c1 h1 h2) rfl sh_65 ⟨_, rfl, rfl, by decide⟩ rfl rfl hd_d1 (Nat.le_refl 0) (Nat.le_refl 0) (Nat.le_of_ble_eq_true rfl) dX12_unit_79 (mQv.elim fun m2 p1 => ?_)
      refine st_aload_n (i := 0) rfl (t := 0) rfl (by decide) dX12_unit_82 ?_
      refine so_getI (v := (m2 65 4)) 65 4 fr_X12_131_11 rfl sh_65 rfl dX12_unit_83 (fun r1 => ?_)
      refine st_iconst dX12_unit_86 ?_
      refine sr_icmp_ne 94 r1 ⟨by decide, by decide⟩ (by decide) dX12_unit_87 (fun h3 => ?_) (fun h3 => ?_)
      · have h3 : ¬ (m2 65 4) = (-1) := by omega
        exact st_return rfl dX12_unit_94 (mQv.ret (q1 h1 h2 m2 p1 h3))
      · have h3 : (m2 65 4) = (-1) := by omega
        refine st_aload_n (i := 0) rfl (t := 0) rfl (by decide) dX12_unit_90 ?_
        refine st_callV (kc2 := 0) (ks2 := 0) (av := []) 65 11 mr_X12_186 ok_X12_compare (c2 h1 h2 m2 p1 h3) rfl sh_65 ⟨_, rfl, rfl, by decide⟩ rfl rfl hd_d2 (Nat.le_refl 0) (Nat.le_refl 0) (Nat.le_of_ble_eq_true rfl) dX12_unit_91 (mQv.elim fun m3 p2 => ?_)
        exact st_return rfl dX12_unit_94 (mQv.ret (q2 h1 h2 m2 p1 h3 m3 p2))
    · have h2 : (hereM (lookM mem)) = 40 := by omega
      refine st_aload_n (i := 0) rfl (t := 0) rfl (by decide) dX12_unit_53 ?_
      refine st_callV (kc2 := 0) (ks2 := 0) (av := []) 65 11 mr_X12_161 ok_X12_opens (c_X12_opens (lookM mem) ((s3 h1 h2))) rfl sh_65 ⟨_, rfl, rfl, by decide⟩ rfl rfl hd2 (Nat.le_refl 0) (Nat.le_refl 0) (Nat.le_of_ble_eq_true rfl) dX12_unit_54 (mQv.elim fun m4 hp => ?_)
      have hp := hp.symm
      subst hp
      refine st_aload_n (i := 0) rfl (t := 0) rfl (by decide) dX12_unit_57 ?_
      refine so_getI (v := ((opensM (lookM mem)) 65 4)) 65 4 fr_X12_131_11 rfl sh_65 rfl dX12_unit_58 (fun r2 => ?_)
      refine st_iconst dX12_unit_61 ?_
      refine sr_icmp_ne 94 r2 ⟨by decide, by decide⟩ (by decide) dX12_unit_62 (fun h4 => ?_) (fun h4 => ?_)
      · have h4 : ¬ ((opensM (lookM mem)) 65 4) = (-1) := by omega
        exact st_return rfl dX12_unit_94 (mQv.ret (q3 h1 h2 h4))
      · have h4 : ((opensM (lookM mem)) 65 4) = (-1) := by omega
        refine st_aload_n (i := 0) rfl (t := 0) rfl (by decide) dX12_unit_65 ?_
        refine st_callV (kc2 := 0) (ks2 := 0) (av := []) 65 11 mr_X12_183 ok_X12_condition (c3 h1 h2 h4) rfl sh_65 ⟨_, rfl, rfl, by decide⟩ rfl rfl hd_d3 (Nat.le_refl 0) (Nat.le_refl 0) (Nat.le_of_ble_eq_true rfl) dX12_unit_66 (mQv.elim fun m5 p3 => ?_)
        refine st_aload_n (i := 0) rfl (t := 0) rfl (by decide) dX12_unit_69 ?_
        refine st_bipush rfl dX12_unit_70 ?_
        refine st_callV (kc2 := 0) (ks2 := 0) (av := [(0, 41)]) 65 11 mr_X12_167 ok_X12_closes (c_X12_closes m5 41 (⟨by decide, by decide⟩) ((s4 h1 h2 h4 m5 p3))) rfl sh_65 ⟨_, rfl, rfl, by decide⟩ rfl rfl hd3 (Nat.le_refl 0) (Nat.le_refl 0) (Nat.le_of_ble_eq_true rfl) dX12_unit_72 (mQv.elim fun m6 hp => ?_)
        have hp := hp.symm
        subst hp
        refine st_goto 94 (by decide) dX12_unit_75 ?_
        exact st_return rfl dX12_unit_94 (mQv.ret (q4 h1 h2 h4 m5 p3))
  · have h1 : (hereM (lookM mem)) = 33 := by omega
    refine st_aload_n (i := 0) rfl (t := 0) rfl (by decide) dX12_unit_11 ?_
    refine st_callV (kc2 := 0) (ks2 := 0) (av := []) 65 11 mr_X12_161 ok_X12_opens (c_X12_opens (lookM mem) ((s5 h1))) rfl sh_65 ⟨_, rfl, rfl, by decide⟩ rfl rfl hd2 (Nat.le_refl 0) (Nat.le_refl 0) (Nat.le_of_ble_eq_true rfl) dX12_unit_12 (mQv.elim fun m7 hp => ?_)
    have hp := hp.symm
    subst hp
    refine st_aload_n (i := 0) rfl (t := 0) rfl (by decide) dX12_unit_15 ?_
    refine so_getI (v := ((opensM (lookM mem)) 65 4)) 65 4 fr_X12_131_11 rfl sh_65 rfl dX12_unit_16 (fun r3 => ?_)
    refine st_iconst dX12_unit_19 ?_
    refine sr_icmp_ne 94 r3 ⟨by decide, by decide⟩ (by decide) dX12_unit_20 (fun h5 => ?_) (fun h5 => ?_)
    · have h5 : ¬ ((opensM (lookM mem)) 65 4) = (-1) := by omega
      exact st_return rfl dX12_unit_94 (mQv.ret (q5 h1 h5))
    · have h5 : ((opensM (lookM mem)) 65 4) = (-1) := by omega
      refine st_aload_n (i := 0) rfl (t := 0) rfl (by decide) dX12_unit_23 ?_
      refine st_callV (kc2 := 0) (ks2 := 0) (av := []) 65 11 mr_X12_180 ok_X12_unit (c4 h1 h5) rfl sh_65 ⟨_, rfl, rfl, by decide⟩ rfl rfl hd_d4 (Nat.le_refl 0) (Nat.le_refl 0) (Nat.le_of_ble_eq_true rfl) dX12_unit_24 (mQv.elim fun m8 p4 => ?_)
      refine st_aload_n (i := 0) rfl (t := 0) rfl (by decide) dX12_unit_27 ?_
      refine st_bipush rfl dX12_unit_28 ?_
      refine st_iconst dX12_unit_30 ?_
      refine st_callV (kc2 := 0) (ks2 := 0) (av := [(0, 9), (0, 0)]) 65 11 mr_X12_153 ok_X12_put (c_X12_put m8 9 0 (⟨by decide, by decide⟩) (⟨by decide, by decide⟩) ((s6 h1 h5 m8 p4))) rfl sh_65 ⟨_, rfl, rfl, by decide⟩ rfl rfl hd1 (Nat.le_refl 0) (Nat.le_refl 0) (Nat.le_of_ble_eq_true rfl) dX12_unit_31 (mQv.elim fun m9 hp => ?_)
      have hp := hp.symm
      subst hp
      refine st_aload_n (i := 0) rfl (t := 0) rfl (by decide) dX12_unit_34 ?_
      refine st_dup (Nat.ne_of_beq_eq_false rfl) dX12_unit_35 ?_
      refine so_getI (v := ((putM m8 9 0) 65 5)) 65 5 fr_X12_137_11 rfl sh_65 rfl dX12_unit_36 (fun r4 => ?_)
      refine st_iconst dX12_unit_39 ?_
      refine st_isub dX12_unit_40 ?_
      refine so_putI 65 5 fr_X12_137_11 pf_11_5 fo_65_5 rfl sh_65 (s7 h1 h5 m8 p4) dX12_unit_41 ?_
      refine st_goto 94 (by decide) dX12_unit_44 ?_
      exact st_return rfl dX12_unit_94 (mQv.ret (q6 h1 h5 m8 p4))
theorem nest_dec {mem m1 m : mmM} {s q : Int} {ts : List tokT} (h1 : nestM mem s m1) (h : doneM m1 q ts m) : doneM mem q ts (mset m 65 5 (m 65 5 - 1)) := by
  obtain ⟨n4, nf, n3, n5, nc, n67, n68⟩ := h1
  obtain ⟨a1, a2, a3, a4, a5, a6, a7⟩ := h
  rw [lmFr_14 nf, nc] at a6
  rw [lmFr_14 nf, nc, n67, n68] at a7
  refine ⟨by rw [mset_at, if_neg (by decide)]; exact a1, lmFr_trans (lmFr_trans nf a2) (lmFr_65 m (by omega)), by rw [mset_at, if_neg (by decide)]; exact a3, by rw [mset_same, a4, n5]; omega, ?_, ?_, ?_⟩
  · unfold codM
    rw [mset_at, if_neg (by decide), mset_ne (by decide)]
    show codM m = _
    rw [a5, nc]
    rfl
  · rw [mset_ne (by decide), mset_ne (by decide)]
    exact a6
  · rw [mset_ne (by decide), mset_ne (by decide)]
    exact a7
theorem nest_decF {mem m1 m : mmM} {s f : Int} (h1 : nestM mem s m1) (hs : mem 65 3 + 1 ≤ s) (h : failM m1 f (-1) m) : failM mem f 0 (mset m 65 5 (m 65 5 - 1)) := by
  obtain ⟨n4, nf, n3, n5, nc, n67, n68⟩ := h1
  obtain ⟨a1, a2, a3, a4, a5, a6⟩ := h
  rw [n3, lmFr_2 nf, n5] at a4
  rw [n3, nc] at a5
  rw [n5] at a6
  have ec : codM (mset m 65 5 (m 65 5 - 1)) = codM m := by
    unfold codM
    rw [mset_at, if_neg (by decide), mset_ne (by decide)]
  refine ⟨by rw [mset_at, if_neg (by decide)]; exact a1, a2, lmFr_trans (lmFr_trans nf a3) (lmFr_65 m (by omega)), by rw [mset_at, if_neg (by decide)]; omega, ?_, by rw [mset_same]; omega⟩
  rw [ec, mset_at, if_neg (by decide)]
  omega
