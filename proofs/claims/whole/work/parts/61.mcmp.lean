/-! the model reads conditions -/
theorem cn_X12_compare {d : Nat} {P : mmM → Prop} {mem : mmM} (h : mmT bX12_compare d 0 0 (mQv P) 0 [(2, 65), (9, 0)] [] mS mem) : conv bX12_compare d [(2, 65)] mem P := mmC_of [(2, 65), (9, 0)] ok_X12_compare.2.2.2.2 rfl (Nat.le_of_ble_eq_true rfl) h
theorem bk_X12_compare_0 {d : Nat} {d1 : Nat} {P1 : mmM → Prop} {d2 : Nat} {P2 : mmM → Prop} {P : mmM → Prop} {mem : mmM}
  (c1 : ¬ (mem 65 4) = (-1) → ((-1) = 61 ∨ (-1) = 60 ∨ (-1) = 62) → conv bX12_sum d1 [(2, 65)] (mset mem 65 3 ((mem 65 3) + 1)) P1)
  (c2 : (mem 65 4) = (-1) → ((hereM (lookM mem)) = 61 ∨ (hereM (lookM mem)) = 60 ∨ (hereM (lookM mem)) = 62) → conv bX12_sum d2 [(2, 65)] (mset (lookM mem) 65 3 (((lookM mem) 65 3) + 1)) P2)
  (q1 : ¬ (mem 65 4) = (-1) → ((-1) = 61 ∨ (-1) = 60 ∨ (-1) = 62) → ∀ (m2 : mmM), P1 m2 → P (putM m2 8 0))
  (q2 : ¬ (mem 65 4) = (-1) → ¬ ((-1) = 61 ∨ (-1) = 60 ∨ (-1) = 62) → P (badM mem))
  (q3 : (mem 65 4) = (-1) → ((hereM (lookM mem)) = 61 ∨ (hereM (lookM mem)) = 60 ∨ (hereM (lookM mem)) = 62) → ∀ (m7 : mmM), P2 m7 → ¬ (hereM (lookM mem)) = 61 → ¬ (hereM (lookM mem)) = 60 → P (putM m7 8 0))
  (q4 : (mem 65 4) = (-1) → ((hereM (lookM mem)) = 61 ∨ (hereM (lookM mem)) = 60 ∨ (hereM (lookM mem)) = 62) → ∀ (m7 : mmM), P2 m7 → ¬ (hereM (lookM mem)) = 61 → (hereM (lookM mem)) = 60 → P (putM m7 7 0))
  (q5 : (mem 65 4) = (-1) → ((hereM (lookM mem)) = 61 ∨ (hereM (lookM mem)) = 60 ∨ (hereM (lookM mem)) = 62) → ∀ (m7 : mmM), P2 m7 → (hereM (lookM mem)) = 61 → P (putM m7 6 0))
  (q6 : (mem 65 4) = (-1) → ¬ ((hereM (lookM mem)) = 61 ∨ (hereM (lookM mem)) = 60 ∨ (hereM (lookM mem)) = 62) → P (badM (lookM mem)))
  (hd_d1 : d1 + 1 ≤ d := by omega)
  (hd_d2 : d2 + 1 ≤ d := by omega)
  (hd1 : 1 ≤ d := by omega)
  (hd2 : 2 ≤ d := by omega)
  (s1 : ¬ (mem 65 4) = (-1) → ((-1) = 61 ∨ (-1) = 60 ∨ (-1) = 62) → R32 ((mem 65 3) + 1) := by intros; first | omega | assumption | solve_by_elim)
  (s2 : ¬ (mem 65 4) = (-1) → ((-1) = 61 ∨ (-1) = 60 ∨ (-1) = 62) → ∀ (m2 : mmM), P1 m2 → putOK m2 := by intros; first | omega | assumption | solve_by_elim)
  (s3 : (mem 65 4) = (-1) → bytM mem := by intros; first | omega | assumption | solve_by_elim)
  (s4 : (mem 65 4) = (-1) → 0 ≤ (mem 65 3) := by intros; first | omega | assumption | solve_by_elim)
  (s5 : (mem 65 4) = (-1) → ((hereM (lookM mem)) = 61 ∨ (hereM (lookM mem)) = 60 ∨ (hereM (lookM mem)) = 62) → R32 (((lookM mem) 65 3) + 1) := by intros; first | omega | assumption | solve_by_elim)
  (s6 : (mem 65 4) = (-1) → ((hereM (lookM mem)) = 61 ∨ (hereM (lookM mem)) = 60 ∨ (hereM (lookM mem)) = 62) → ∀ (m7 : mmM), P2 m7 → ¬ (hereM (lookM mem)) = 61 → ¬ (hereM (lookM mem)) = 60 → putOK m7 := by intros; first | omega | assumption | solve_by_elim)
  (s7 : (mem 65 4) = (-1) → ((hereM (lookM mem)) = 61 ∨ (hereM (lookM mem)) = 60 ∨ (hereM (lookM mem)) = 62) → ∀ (m7 : mmM), P2 m7 → ¬ (hereM (lookM mem)) = 61 → (hereM (lookM mem)) = 60 → putOK m7 := by intros; first | omega | assumption | solve_by_elim)
  (s8 : (mem 65 4) = (-1) → ((hereM (lookM mem)) = 61 ∨ (hereM (lookM mem)) = 60 ∨ (hereM (lookM mem)) = 62) → ∀ (m7 : mmM), P2 m7 → (hereM (lookM mem)) = 61 → putOK m7 := by intros; first | omega | assumption | solve_by_elim)
  : mmT bX12_compare d 0 0 (mQv P) 0 [(2, 65), (9, 0)] [] mS mem := by
  refine st_aload_n (i := 0) rfl (t := 0) rfl (by decide) dX12_compare_0 ?_
  refine so_getI (v := (mem 65 4)) 65 4 fr_X12_131_11 rfl sh_65 rfl dX12_compare_1 (fun r1 => ?_)
  refine st_iconst dX12_compare_4 ?_
  refine sr_icmp_ne 15 r1 ⟨by decide, by decide⟩ (by decide) dX12_compare_5 (fun h1 => ?_) (fun h1 => ?_)
  · have h1 : ¬ (mem 65 4) = (-1) := by omega
    refine st_iconst dX12_compare_15 ?_
    refine st_istore_n (i := 1) rfl (by decide) (lc' := [(2, 65), (0, (-1))]) rfl dX12_compare_16 ?_
    refine st_iload_n (i := 1) rfl rfl dX12_compare_17 ?_
    refine st_callS (kc2 := 0) (ks2 := 0) (av := [(0, (-1))]) mr_X12_177 ok_X12_isSign (c_X12_isSign mem (-1) (⟨by decide, by decide⟩)) rfl rfl hd2 (Nat.le_refl 0) (Nat.le_refl 0) (Nat.le_of_ble_eq_true rfl) dX12_compare_18 (mQ.elim fun v1 m1 hp => ?_)
    obtain ⟨hpv, hpm⟩ := hp
    subst hpv
    have hpm := hpm.symm
    subst hpm
    refine so_ifneB 29 (by decide) dX12_compare_21 (fun h2 => ?_) (fun h2 => ?_)
    · have h2 : ((-1) = 61 ∨ (-1) = 60 ∨ (-1) = 62) := h2
      refine st_aload_n (i := 0) rfl (t := 0) rfl (by decide) dX12_compare_29 ?_
      refine st_dup (Nat.ne_of_beq_eq_false rfl) dX12_compare_30 ?_
      refine so_getI (v := (mem 65 3)) 65 3 fr_X12_124_11 rfl sh_65 rfl dX12_compare_31 (fun r2 => ?_)
      refine st_iconst dX12_compare_34 ?_
      refine st_iadd dX12_compare_35 ?_
      refine so_putI 65 3 fr_X12_124_11 pf_11_3 fo_65_3 rfl sh_65 (s1 h1 h2) dX12_compare_36 ?_
      refine st_aload_n (i := 0) rfl (t := 0) rfl (by decide) dX12_compare_39 ?_
      refine st_callV (kc2 := 0) (ks2 := 0) (av := []) 65 11 mr_X12_164 ok_X12_sum (c1 h1 h2) rfl sh_65 ⟨_, rfl, rfl, by decide⟩ rfl rfl hd_d1 (Nat.le_refl 0) (Nat.le_refl 0) (Nat.le_of_ble_eq_true rfl) dX12_compare_40 (mQv.elim fun m2 p1 => ?_)
      refine st_aload_n (i := 0) rfl (t := 0) rfl (by decide) dX12_compare_43 ?_
      refine st_iload_n (i := 1) rfl rfl dX12_compare_44 ?_
      refine st_bipush rfl dX12_compare_45 ?_
      refine sr_icmp_ne 55 ⟨by decide, by decide⟩ ⟨by decide, by decide⟩ (by decide) dX12_compare_47 (fun h => ?_) (fun h => ?_)
      rotate_left
      · exact absurd h (by decide)
      refine st_iload_n (i := 1) rfl rfl dX12_compare_55 ?_
      refine st_bipush rfl dX12_compare_56 ?_
      refine sr_icmp_ne 66 ⟨by decide, by decide⟩ ⟨by decide, by decide⟩ (by decide) dX12_compare_58 (fun h => ?_) (fun h => ?_)
      rotate_left
      · exact absurd h (by decide)
      refine st_bipush rfl dX12_compare_66 ?_
      refine st_iconst dX12_compare_68 ?_
      refine st_callV (kc2 := 0) (ks2 := 0) (av := [(0, 8), (0, 0)]) 65 11 mr_X12_153 ok_X12_put (c_X12_put m2 8 0 (⟨by decide, by decide⟩) (⟨by decide, by decide⟩) ((s2 h1 h2 m2 p1))) rfl sh_65 ⟨_, rfl, rfl, by decide⟩ rfl rfl hd1 (Nat.le_refl 0) (Nat.le_refl 0) (Nat.le_of_ble_eq_true rfl) dX12_compare_69 (mQv.elim fun m3 hp => ?_)
      have hp := hp.symm
      subst hp
      exact st_return rfl dX12_compare_72 (mQv.ret (q1 h1 h2 m2 p1))
    · have h2 : ¬ ((-1) = 61 ∨ (-1) = 60 ∨ (-1) = 62) := h2
      refine st_aload_n (i := 0) rfl (t := 0) rfl (by decide) dX12_compare_24 ?_
      refine st_callV (kc2 := 0) (ks2 := 0) (av := []) 65 11 mr_X12_140 ok_X12_bad (c_X12_bad mem ) rfl sh_65 ⟨_, rfl, rfl, by decide⟩ rfl rfl hd1 (Nat.le_refl 0) (Nat.le_refl 0) (Nat.le_of_ble_eq_true rfl) dX12_compare_25 (mQv.elim fun m4 hp => ?_)
      have hp := hp.symm
      subst hp
      exact st_return rfl dX12_compare_28 (mQv.ret (q2 h1 h2))
  · have h1 : (mem 65 4) = (-1) := by omega
    refine st_aload_n (i := 0) rfl (t := 0) rfl (by decide) dX12_compare_8 ?_
    refine st_callV (kc2 := 0) (ks2 := 0) (av := []) 65 11 mr_X12_143 ok_X12_look (c_X12_look mem ((s3 h1)) ((s4 h1))) rfl sh_65 ⟨_, rfl, rfl, by decide⟩ rfl rfl hd2 (Nat.le_refl 0) (Nat.le_refl 0) (Nat.le_of_ble_eq_true rfl) dX12_compare_9 (mQ.elim fun v2 m5 hp => ?_)
    obtain ⟨hpv, hpm⟩ := hp
    subst hpv
    have hpm := hpm.symm
    subst hpm
    refine st_goto 16 (by decide) dX12_compare_12 ?_
    refine st_istore_n (i := 1) rfl (by decide) (lc' := [(2, 65), (0, (hereM (lookM mem)))]) rfl dX12_compare_16 ?_
    refine st_iload_n (i := 1) rfl rfl dX12_compare_17 ?_
    refine st_callS (kc2 := 0) (ks2 := 0) (av := [(0, (hereM (lookM mem)))]) mr_X12_177 ok_X12_isSign (c_X12_isSign (lookM mem) (hereM (lookM mem)) ((lookM_rng mem ((s3 h1)) ((s4 h1))))) rfl rfl hd2 (Nat.le_refl 0) (Nat.le_refl 0) (Nat.le_of_ble_eq_true rfl) dX12_compare_18 (mQ.elim fun v3 m6 hp => ?_)
    obtain ⟨hpv, hpm⟩ := hp
    subst hpv
    have hpm := hpm.symm
    subst hpm
    refine so_ifneB 29 (by decide) dX12_compare_21 (fun h3 => ?_) (fun h3 => ?_)
    · have h3 : ((hereM (lookM mem)) = 61 ∨ (hereM (lookM mem)) = 60 ∨ (hereM (lookM mem)) = 62) := h3
      refine st_aload_n (i := 0) rfl (t := 0) rfl (by decide) dX12_compare_29 ?_
      refine st_dup (Nat.ne_of_beq_eq_false rfl) dX12_compare_30 ?_
      refine so_getI (v := ((lookM mem) 65 3)) 65 3 fr_X12_124_11 rfl sh_65 rfl dX12_compare_31 (fun r3 => ?_)
      refine st_iconst dX12_compare_34 ?_
      refine st_iadd dX12_compare_35 ?_
      refine so_putI 65 3 fr_X12_124_11 pf_11_3 fo_65_3 rfl sh_65 (s5 h1 h3) dX12_compare_36 ?_
      refine st_aload_n (i := 0) rfl (t := 0) rfl (by decide) dX12_compare_39 ?_
      refine st_callV (kc2 := 0) (ks2 := 0) (av := []) 65 11 mr_X12_164 ok_X12_sum (c2 h1 h3) rfl sh_65 ⟨_, rfl, rfl, by decide⟩ rfl rfl hd_d2 (Nat.le_refl 0) (Nat.le_refl 0) (Nat.le_of_ble_eq_true rfl) dX12_compare_40 (mQv.elim fun m7 p2 => ?_)
      refine st_aload_n (i := 0) rfl (t := 0) rfl (by decide) dX12_compare_43 ?_
      refine st_iload_n (i := 1) rfl rfl dX12_compare_44 ?_
      refine st_bipush rfl dX12_compare_45 ?_
      refine sr_icmp_ne 55 (lookM_rng mem ((s3 h1)) ((s4 h1))) ⟨by decide, by decide⟩ (by decide) dX12_compare_47 (fun h4 => ?_) (fun h4 => ?_)
      · have h4 : ¬ (hereM (lookM mem)) = 61 := by omega
        refine st_iload_n (i := 1) rfl rfl dX12_compare_55 ?_
        refine st_bipush rfl dX12_compare_56 ?_
        refine sr_icmp_ne 66 (lookM_rng mem ((s3 h1)) ((s4 h1))) ⟨by decide, by decide⟩ (by decide) dX12_compare_58 (fun h5 => ?_) (fun h5 => ?_)
        · have h5 : ¬ (hereM (lookM mem)) = 60 := by omega
          refine st_bipush rfl dX12_compare_66 ?_
          refine st_iconst dX12_compare_68 ?_
          refine st_callV (kc2 := 0) (ks2 := 0) (av := [(0, 8), (0, 0)]) 65 11 mr_X12_153 ok_X12_put (c_X12_put m7 8 0 (⟨by decide, by decide⟩) (⟨by decide, by decide⟩) ((s6 h1 h3 m7 p2 h4 h5))) rfl sh_65 ⟨_, rfl, rfl, by decide⟩ rfl rfl hd1 (Nat.le_refl 0) (Nat.le_refl 0) (Nat.le_of_ble_eq_true rfl) dX12_compare_69 (mQv.elim fun m8 hp => ?_)
          have hp := hp.symm
          subst hp
          exact st_return rfl dX12_compare_72 (mQv.ret (q3 h1 h3 m7 p2 h4 h5))
        · have h5 : (hereM (lookM mem)) = 60 := by omega
          refine st_bipush rfl dX12_compare_61 ?_
          refine st_goto 68 (by decide) dX12_compare_63 ?_
          refine st_iconst dX12_compare_68 ?_
          refine st_callV (kc2 := 0) (ks2 := 0) (av := [(0, 7), (0, 0)]) 65 11 mr_X12_153 ok_X12_put (c_X12_put m7 7 0 (⟨by decide, by decide⟩) (⟨by decide, by decide⟩) ((s7 h1 h3 m7 p2 h4 h5))) rfl sh_65 ⟨_, rfl, rfl, by decide⟩ rfl rfl hd1 (Nat.le_refl 0) (Nat.le_refl 0) (Nat.le_of_ble_eq_true rfl) dX12_compare_69 (mQv.elim fun m9 hp => ?_)
          have hp := hp.symm
          subst hp
          exact st_return rfl dX12_compare_72 (mQv.ret (q4 h1 h3 m7 p2 h4 h5))
      · have h4 : (hereM (lookM mem)) = 61 := by omega
        refine st_bipush rfl dX12_compare_50 ?_
        refine st_goto 68 (by decide) dX12_compare_52 ?_
        refine st_iconst dX12_compare_68 ?_
        refine st_callV (kc2 := 0) (ks2 := 0) (av := [(0, 6), (0, 0)]) 65 11 mr_X12_153 ok_X12_put (c_X12_put m7 6 0 (⟨by decide, by decide⟩) (⟨by decide, by decide⟩) ((s8 h1 h3 m7 p2 h4))) rfl sh_65 ⟨_, rfl, rfl, by decide⟩ rfl rfl hd1 (Nat.le_refl 0) (Nat.le_refl 0) (Nat.le_of_ble_eq_true rfl) dX12_compare_69 (mQv.elim fun m10 hp => ?_)
        have hp := hp.symm
        subst hp
        exact st_return rfl dX12_compare_72 (mQv.ret (q5 h1 h3 m7 p2 h4))
    · have h3 : ¬ ((hereM (lookM mem)) = 61 ∨ (hereM (lookM mem)) = 60 ∨ (hereM (lookM mem)) = 62) := h3
      refine st_aload_n (i := 0) rfl (t := 0) rfl (by decide) dX12_compare_24 ?_
      refine st_callV (kc2 := 0) (ks2 := 0) (av := []) 65 11 mr_X12_140 ok_X12_bad (c_X12_bad (lookM mem) ) rfl sh_65 ⟨_, rfl, rfl, by decide⟩ rfl rfl hd1 (Nat.le_refl 0) (Nat.le_refl 0) (Nat.le_of_ble_eq_true rfl) dX12_compare_25 (mQv.elim fun m11 hp => ?_)
      have hp := hp.symm
      subst hp
      exact st_return rfl dX12_compare_28 (mQv.ret (q6 h1 h3))
theorem am_Cmp (r : Nat) (hr : r ≤ 6) (mem : mmM) (hp : preM mem) (h5 : mem 65 5 = 6 - (r : Int)) (m : mmM) (q : Int) (ts : List tokT) (hm : doneM mem q ts m) (hq : mem 65 3 ≤ q ∧ q ≤ mem 65 2 ∧ (ts.length : Int) ≤ q - mem 65 3) : conv bX12_compare (3 * r + 6) [(2, 65)] m (resM mem (cmpP (CM mem) (SM mem) (sumL (CM mem) (SM mem) r) q ts)) := by
  obtain ⟨hb, hw, p3, p14, pc, pd⟩ := id hp
  have hn := hb.1
  obtain ⟨a1, a2, a3, a4, a5, -, -⟩ := id hm
  have ge := SM_ge mem q
  have le := SM_le (m := mem) (i := q) hq.2.1
  obtain ⟨s, hs⟩ : ∃ s, SM mem q = s := ⟨_, rfl⟩
  rw [hs] at ge le
  have lk : lookM m = cuM m s := by
    unfold lookM
    rw [lmFr_S a2, a3, hs]
  have i61 := hereM_is m (j := s) (c := 61) (by omega) (by decide)
  have i60 := hereM_is m (j := s) (c := 60) (by omega) (by decide)
  have i62 := hereM_is m (j := s) (c := 62) (by omega) (by decide)
  rw [lmFr_C a2] at i61 i60 i62
  obtain ⟨R, hR⟩ : ∃ R, cmpP (CM mem) (SM mem) (sumL (CM mem) (SM mem) r) q ts = R := ⟨_, rfl⟩
  rw [hR]
  have sub : 0 < CM mem s → conv bX12_sum (3 * r + 5) [(2, 65)] (cuM m (s + 1)) (resM (cuM m (s + 1)) (sumL (CM mem) (SM mem) r (s + 1))) := by
    intro z
    have l : s < mem 65 2 := chT_in (T := mem 66) z
    have := c_X12_sum r hr (cuM m (s + 1)) (preM_cu hp hm (by omega)) (by rw [cuM_65 _ _ (by decide), a4, h5])
    have fr1 := lmFr_trans a2 (lmFr_cu m (s + 1))
    rw [lmFr_C fr1, lmFr_S fr1, cuM_at] at this
    exact this
  have after : ∀ op m1, opC (CM mem s) = some op → resM (cuM m (s + 1)) (sumL (CM mem) (SM mem) r (s + 1)) m1 → putOK m1 ∧ resM mem R (putM m1 op 0) := by
    intro op m1 ho w1
    have l : s < mem 65 2 := chT_in (T := mem 66) (opC_pos ho).1
    cases hf : sumL (CM mem) (SM mem) r (s + 1) with
    | inl f =>
      rw [hf] at w1
      have fl := failM_app hm (k := 1) (s := s + 1) (by omega) (by omega) w1
      have ok := putOK_fail hp fl (by decide)
      refine ⟨ok, ?_⟩
      rw [← hR, cmpP_bad (by rw [hs]; exact ho) (by rw [hs]; exact hf)]
      exact failM_put fl ok
    | inr x =>
      obtain ⟨t, us⟩ := x
      rw [hf] at w1
      have gd := (good_sum (tapM_P mem) r (s + 1) (by omega) (by omega)).2 t us hf
      have w2 := doneM_app (doneM_cu hm (s + 1)) w1
      have ll : (((ts ++ us).length : Nat) : Int) = ts.length + us.length := by
        rw [List.length_append]
        omega
      have ok := putOK_done hp w2 (by omega)
      refine ⟨ok, ?_⟩
      rw [← hR, cmpP_yes (by rw [hs]; exact ho) (by rw [hs]; exact hf)]
      exact doneM_put w2 ok
  have o6 : hereM (cuM m s) = 61 → opC (CM mem s) = some 6 := fun z => by rw [i61.mp z]; rfl
  have o7 : hereM (cuM m s) = 60 → opC (CM mem s) = some 7 := fun z => by rw [i60.mp z]; rfl
  have o8 : hereM (cuM m s) = 62 → opC (CM mem s) = some 8 := fun z => by rw [i62.mp z]; rfl
  refine cn_X12_compare (bk_X12_compare_0 (d1 := 0) (d2 := 3 * r + 5) (P1 := fun _ => True) (P2 := resM (cuM m (s + 1)) (sumL (CM mem) (SM mem) r (s + 1))) (fun g => absurd a1 g) (fun _ g => ?_) (fun g => absurd a1 g) (fun g => absurd a1 g) (fun _ g m7 w7 g1 g2 => ?_) (fun _ g m7 w7 g1 g2 => ?_) (fun _ g m7 w7 g1 => ?_) (fun _ g => ?_) (s1 := fun g => absurd a1 g) (s2 := fun g => absurd a1 g) (s3 := fun _ => lmFr_B a2 hb) (s4 := fun _ => by omega) (s5 := fun _ _ => by rw [lk, cuM_at]; exact ⟨by omega, by omega⟩) (s6 := fun _ g m7 w7 g1 g2 => ?_) (s7 := fun _ g m7 w7 g1 g2 => ?_) (s8 := fun _ g m7 w7 g1 => ?_)) <;> (try rw [lk] at g) <;> (try rw [lk] at g1) <;> (try rw [lk] at g2)
  · rw [lk, cuM_at, cuM_mset]
    refine sub ?_
    rcases g with g | g | g
    · have := i61.mp g
      omega
    · have := i60.mp g
      omega
    · have := i62.mp g
      omega
  · refine (after 8 m7 (o8 ?_) w7).2
    rcases g with g | g | g
    · exact absurd g g1
    · exact absurd g g2
    · exact g
  · exact (after 7 m7 (o7 g2) w7).2
  · exact (after 6 m7 (o6 g1) w7).2
  · rw [lk, badM_cu m _ a1]
    have no : opC (CM mem (SM mem q)) = none := by
      rw [hs]
      unfold opC
      rw [if_neg (fun z => g (Or.inl (i61.mpr z))), if_neg (fun z => g (Or.inr (Or.inl (i60.mpr z)))), if_neg (fun z => g (Or.inr (Or.inr (i62.mpr z))))]
    rw [← hR, cmpP_no no, hs]
    have ec : codM (wM m s s) = codM m := by
      unfold codM
      rw [wM_65 _ _ _ (by decide) (by decide), wM_ne _ _ _ (by decide)]
    refine ⟨wM_4 _ _ _, by omega, lmFr_trans a2 (lmFr_trans (lmFr_cu m s) (lmFr_65 _ (by omega))), ?_, ?_, ?_⟩
    · rw [wM_3]
      omega
    · rw [ec, a5, wM_3]
      omega
    · rw [wM_65 _ _ _ (by decide) (by decide), a4]
      omega
  · refine (after 8 m7 (o8 ?_) w7).1
    rcases g with g | g | g
    · exact absurd g g1
    · exact absurd g g2
    · exact g
  · exact (after 7 m7 (o7 g2) w7).1
  · exact (after 6 m7 (o6 g1) w7).1
theorem cn_X12_goOnAnd {d : Nat} {P : mmM → Prop} {mem : mmM} (h : mmT bX12_goOnAnd d 0 0 (mQv P) 0 [(2, 65)] [] mS mem) : conv bX12_goOnAnd d [(2, 65)] mem P := mmC_of [(2, 65)] ok_X12_goOnAnd.2.2.2.2 rfl (Nat.le_of_ble_eq_true rfl) h
theorem bk_X12_goOnAnd_0 {d : Nat} {d1 : Nat} {P1 : mmM → Prop} {P : mmM → Prop} {mem : mmM}
  (c1 : (mem 65 4) = (-1) → (hereM (lookM mem)) = 38 → conv bX12_unit d1 [(2, 65)] (mset (lookM mem) 65 3 (((lookM mem) 65 3) + 1)) P1)
  (k1 : (mem 65 4) = (-1) → (hereM (lookM mem)) = 38 → ∀ (m2 : mmM), P1 m2 → mmT bX12_goOnAnd d 0 0 (mQv P) 0 [(2, 65)] [] mS (putM m2 10 0))
  (q1 : ¬ (mem 65 4) = (-1) → P mem)
  (q2 : (mem 65 4) = (-1) → ¬ (hereM (lookM mem)) = 38 → P (lookM mem))
  (hd_d1 : d1 + 1 ≤ d := by omega)
  (hd1 : 1 ≤ d := by omega)
  (hd2 : 2 ≤ d := by omega)
  (s1 : (mem 65 4) = (-1) → bytM mem := by intros; first | omega | assumption | solve_by_elim)
  (s2 : (mem 65 4) = (-1) → 0 ≤ (mem 65 3) := by intros; first | omega | assumption | solve_by_elim)
  (s3 : (mem 65 4) = (-1) → (hereM (lookM mem)) = 38 → R32 (((lookM mem) 65 3) + 1) := by intros; first | omega | assumption | solve_by_elim)
  (s4 : (mem 65 4) = (-1) → (hereM (lookM mem)) = 38 → ∀ (m2 : mmM), P1 m2 → putOK m2 := by intros; first | omega | assumption | solve_by_elim)
  : mmT bX12_goOnAnd d 0 0 (mQv P) 0 [(2, 65)] [] mS mem := by
  refine st_aload_n (i := 0) rfl (t := 0) rfl (by decide) dX12_goOnAnd_0 ?_
  refine so_getI (v := (mem 65 4)) 65 4 fr_X12_131_11 rfl sh_65 rfl dX12_goOnAnd_1 (fun r1 => ?_)
  refine st_iconst dX12_goOnAnd_4 ?_
  refine sr_icmp_ne 41 r1 ⟨by decide, by decide⟩ (by decide) dX12_goOnAnd_5 (fun h1 => ?_) (fun h1 => ?_)
  · have h1 : ¬ (mem 65 4) = (-1) := by omega
    exact st_return rfl dX12_goOnAnd_41 (mQv.ret (q1 h1))
  · have h1 : (mem 65 4) = (-1) := by omega
    refine st_aload_n (i := 0) rfl (t := 0) rfl (by decide) dX12_goOnAnd_8 ?_
    refine st_callV (kc2 := 0) (ks2 := 0) (av := []) 65 11 mr_X12_143 ok_X12_look (c_X12_look mem ((s1 h1)) ((s2 h1))) rfl sh_65 ⟨_, rfl, rfl, by decide⟩ rfl rfl hd2 (Nat.le_refl 0) (Nat.le_refl 0) (Nat.le_of_ble_eq_true rfl) dX12_goOnAnd_9 (mQ.elim fun v1 m1 hp => ?_)
    obtain ⟨hpv, hpm⟩ := hp
    subst hpv
    have hpm := hpm.symm
    subst hpm
    refine st_bipush rfl dX12_goOnAnd_12 ?_
    refine sr_icmp_ne 41 (lookM_rng mem ((s1 h1)) ((s2 h1))) ⟨by decide, by decide⟩ (by decide) dX12_goOnAnd_14 (fun h2 => ?_) (fun h2 => ?_)
    · have h2 : ¬ (hereM (lookM mem)) = 38 := by omega
      exact st_return rfl dX12_goOnAnd_41 (mQv.ret (q2 h1 h2))
    · have h2 : (hereM (lookM mem)) = 38 := by omega
      refine st_aload_n (i := 0) rfl (t := 0) rfl (by decide) dX12_goOnAnd_17 ?_
      refine st_dup (Nat.ne_of_beq_eq_false rfl) dX12_goOnAnd_18 ?_
      refine so_getI (v := ((lookM mem) 65 3)) 65 3 fr_X12_124_11 rfl sh_65 rfl dX12_goOnAnd_19 (fun r2 => ?_)
      refine st_iconst dX12_goOnAnd_22 ?_
      refine st_iadd dX12_goOnAnd_23 ?_
      refine so_putI 65 3 fr_X12_124_11 pf_11_3 fo_65_3 rfl sh_65 (s3 h1 h2) dX12_goOnAnd_24 ?_
      refine st_aload_n (i := 0) rfl (t := 0) rfl (by decide) dX12_goOnAnd_27 ?_
      refine st_callV (kc2 := 0) (ks2 := 0) (av := []) 65 11 mr_X12_180 ok_X12_unit (c1 h1 h2) rfl sh_65 ⟨_, rfl, rfl, by decide⟩ rfl rfl hd_d1 (Nat.le_refl 0) (Nat.le_refl 0) (Nat.le_of_ble_eq_true rfl) dX12_goOnAnd_28 (mQv.elim fun m2 p1 => ?_)
      refine st_aload_n (i := 0) rfl (t := 0) rfl (by decide) dX12_goOnAnd_31 ?_
      refine st_bipush rfl dX12_goOnAnd_32 ?_
      refine st_iconst dX12_goOnAnd_34 ?_
      refine st_callV (kc2 := 0) (ks2 := 0) (av := [(0, 10), (0, 0)]) 65 11 mr_X12_153 ok_X12_put (c_X12_put m2 10 0 (⟨by decide, by decide⟩) (⟨by decide, by decide⟩) ((s4 h1 h2 m2 p1))) rfl sh_65 ⟨_, rfl, rfl, by decide⟩ rfl rfl hd1 (Nat.le_refl 0) (Nat.le_refl 0) (Nat.le_of_ble_eq_true rfl) dX12_goOnAnd_35 (mQv.elim fun m3 hp => ?_)
      have hp := hp.symm
      subst hp
      refine st_goto 0 (by decide) dX12_goOnAnd_38 ?_
      exact st_locals [(2, 65)] ⟨Or.inr rfl, trivial⟩ (k1 h1 h2 m2 p1)
theorem am_And (F : mmM → Int → PR) (dp : Int) (dU : Nat) (hd : 1 ≤ dU) (hU : ∀ m, preM m → m 65 5 = dp → conv bX12_unit dU [(2, 65)] m (resM m (F m (m 65 3)))) (hF : ∀ mem m, lmFr mem m → F m = F mem) (hg : ∀ m, bytM m → goodP (m 65 2) (F m)) (mem : mmM) (hp : preM mem) (h5 : mem 65 5 = dp) (R0 : PR) (hG : gdR (mem 65 2) (mem 65 3) R0) (m0 : mmM) (h0 : resM mem R0 m0) : conv bX12_goOnAnd (dU + 1) [(2, 65)] m0 (resM mem (goP (CM mem) (SM mem) opA (F mem) R0)) := by
  obtain ⟨hb, hw, p3, p14, pc, pd⟩ := id hp
  have hn := hb.1
  have stop : ∀ (R : PR) (f : Int) (m : mmM), failM mem f 0 m → R = .inl f → mmT bX12_goOnAnd (dU + 1) 0 0 (mQv (resM mem R)) 0 [(2, 65)] [] mS m := by
    intro R f m h e
    have ne : ¬ m 65 4 = -1 := by
      have := h.1
      have := h.2.1
      omega
    rw [e]
    exact bk_X12_goOnAnd_0 (d1 := 0) (P1 := fun _ => True) (fun g => absurd g ne) (fun g => absurd g ne) (fun _ => h) (fun g => absurd g ne) (s1 := fun g => absurd g ne) (s2 := fun g => absurd g ne) (s3 := fun g => absurd g ne) (s4 := fun g => absurd g ne)
  have main : ∀ (k : Nat) (R : PR) (m : mmM) (j : Int) (ts : List tokT), doneM mem j ts m → (mem 65 3 < j ∧ j ≤ mem 65 2 ∧ (ts.length : Int) ≤ j - mem 65 3) → mem 65 2 - j < k → R = loopP (CM mem) (SM mem) opA (F mem) k j ts → mmT bX12_goOnAnd (dU + 1) 0 0 (mQv (resM mem R)) 0 [(2, 65)] [] mS m := by
    intro k R
    induction k with
    | zero =>
      intro m j ts _ _ h
      omega
    | succ k ih =>
      intro m j ts hm hj hk hR
      obtain ⟨a1, a2, a3, a4, a5, -, -⟩ := id hm
      have ge := SM_ge mem j
      have le := SM_le (m := mem) (i := j) hj.2.1
      obtain ⟨s, hs⟩ : ∃ s, SM mem j = s := ⟨_, rfl⟩
      rw [hs] at ge le
      have lk : lookM m = cuM m s := by
        unfold lookM
        rw [lmFr_S a2, a3, hs]
      have i38 := hereM_is m (j := s) (c := 38) (by omega) (by decide)
      rw [lmFr_C a2] at i38
      have ho : CM mem s = 38 → opA (CM mem (SM mem j)) = some 10 := fun z => by rw [hs, z]; rfl
      refine bk_X12_goOnAnd_0 (d1 := dU) (P1 := fun m1 => CM mem s = 38 ∧ resM (cuM m (s + 1)) (F mem (s + 1)) m1) (fun _ g => ?_) (fun _ g m1 w1 => ?_) (fun g => absurd a1 g) (fun _ g => ?_) (s1 := fun _ => lmFr_B a2 hb) (s2 := fun _ => by omega) (s3 := fun _ g => by rw [lk, cuM_at]; exact ⟨by omega, by omega⟩) (s4 := fun _ g m1 w1 => ?_)
      · rw [lk] at g ⊢
        rw [cuM_at, cuM_mset]
        have z := i38.mp g
        have l : s < mem 65 2 := chT_in (T := mem 66) (show 0 < CM mem s by omega)
        have at1 := hU (cuM m (s + 1)) (preM_cu hp hm (s := s + 1) (by omega)) (by rw [cuM_65 _ _ (by decide), a4, h5])
        rw [hF mem _ (lmFr_trans a2 (lmFr_cu m (s + 1))), cuM_at] at at1
        exact conv.mono at1 (fun m' w => ⟨z, w⟩)
      · obtain ⟨z, w1⟩ := w1
        have l : s < mem 65 2 := chT_in (T := mem 66) (show 0 < CM mem s by omega)
        cases hf : F mem (s + 1) with
        | inl f =>
          rw [hf] at w1
          have fl := failM_app hm (k := 1) (s := s + 1) (by omega) (by omega) w1
          refine stop R f _ (failM_put fl (putOK_fail hp fl (by decide))) ?_
          rw [hR]
          exact loopP_bad (ho z) (by rw [hs]; exact hf)
        | inr x =>
          obtain ⟨q, us⟩ := x
          rw [hf] at w1
          have gd := (hg mem hb (s + 1) (by omega) (by omega)).2 q us hf
          have w2 := doneM_app (doneM_cu hm (s + 1)) w1
          have ll : (((ts ++ us).length : Nat) : Int) = ts.length + us.length := by
            rw [List.length_append]
            omega
          have w3 := doneM_put (c := 10) (v := 0) w2 (putOK_done hp w2 (by omega))
          refine ih _ q (ts ++ us ++ [(10, 0)]) w3 ⟨by omega, by omega, ?_⟩ (by omega) ?_
          · rw [List.length_append, List.length_singleton]
            omega
          · rw [hR]
            exact loopP_yes (ho z) (by rw [hs]; exact hf)
      · rw [lk] at g ⊢
        have no : opA (CM mem (SM mem j)) = none := by
          rw [hs]
          exact if_neg (fun z => g (i38.mpr z))
        rw [hR, loopP_no no, hs]
        exact doneM_cu hm s
      · obtain ⟨z, w1⟩ := w1
        have l : s < mem 65 2 := chT_in (T := mem 66) (show 0 < CM mem s by omega)
        cases hf : F mem (s + 1) with
        | inl f =>
          rw [hf] at w1
          exact putOK_fail hp (failM_app hm (k := 1) (s := s + 1) (by omega) (by omega) w1) (by decide)
        | inr x =>
          obtain ⟨q, us⟩ := x
          rw [hf] at w1
          have gd := (hg mem hb (s + 1) (by omega) (by omega)).2 q us hf
          have w2 := doneM_app (doneM_cu hm (s + 1)) w1
          have ll : (((ts ++ us).length : Nat) : Int) = ts.length + us.length := by
            rw [List.length_append]
            omega
          exact putOK_done hp w2 (by omega)
  refine cn_X12_goOnAnd ?_
  cases R0 with
  | inl f => exact stop _ f m0 h0 rfl
  | inr x =>
    obtain ⟨q, ts⟩ := x
    have gd := hG.2 q ts rfl
    exact main 200 _ m0 q ts h0 ⟨by omega, by omega, by omega⟩ (by omega) rfl
