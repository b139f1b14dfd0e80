/-! the model reads terms and sums -/
theorem cn_X12_term {d : Nat} {P : mmM → Prop} {mem : mmM} (h : mmT bX12_term d 0 0 (mQv P) 0 [(2, 65), (9, 0)] [] mS mem) : conv bX12_term d [(2, 65)] mem P := mmC_of [(2, 65), (9, 0)] ok_X12_term.2.2.2.2 rfl (Nat.le_of_ble_eq_true rfl) h
theorem bk_X12_term_0 {d : Nat} {d1 : Nat} {P1 : mmM → Prop} {P : mmM → Prop} {mem : mmM}
  (c1 : conv bX12_atom d1 [(2, 65)] mem P1)
  (k1 : ∀ (m1 : mmM), P1 m1 → mmT bX12_term d 0 0 (mQv P) 4 [(2, 65), (9, 0)] [] mS m1)
  (hd_d1 : d1 + 1 ≤ d := by omega)
  : mmT bX12_term d 0 0 (mQv P) 0 [(2, 65), (9, 0)] [] mS mem := by
  refine st_aload_n (i := 0) rfl (t := 0) rfl (by decide) dX12_term_0 ?_
  refine st_callV (kc2 := 0) (ks2 := 0) (av := []) 65 11 mr_X12_171 ok_X12_atom c1 rfl sh_65 ⟨_, rfl, rfl, by decide⟩ rfl rfl hd_d1 (Nat.le_refl 0) (Nat.le_refl 0) (Nat.le_of_ble_eq_true rfl) dX12_term_1 (mQv.elim fun m1 p1 => ?_)
  exact st_locals [(2, 65), (9, 0)] ⟨Or.inr rfl, Or.inl rfl, trivial⟩ (k1 m1 p1)
theorem bk_X12_term_4 {d : Nat} {P : mmM → Prop} {mem : mmM}
  (k1 : ¬ (mem 65 4) = (-1) → mmT bX12_term d 0 0 (mQv P) 21 [(2, 65), (0, (-1))] [] mS mem)
  (k2 : (mem 65 4) = (-1) → mmT bX12_term d 0 0 (mQv P) 21 [(2, 65), (0, (hereM (lookM mem)))] [] mS (lookM mem))
  (hd2 : 2 ≤ d := by omega)
  (s1 : (mem 65 4) = (-1) → bytM mem := by intros; first | omega | assumption | solve_by_elim)
  (s2 : (mem 65 4) = (-1) → 0 ≤ (mem 65 3) := by intros; first | omega | assumption | solve_by_elim)
  : mmT bX12_term d 0 0 (mQv P) 4 [(2, 65), (9, 0)] [] mS mem := by
  refine st_aload_n (i := 0) rfl (t := 0) rfl (by decide) dX12_term_4 ?_
  refine so_getI (v := (mem 65 4)) 65 4 fr_X12_131_11 rfl sh_65 rfl dX12_term_5 (fun r1 => ?_)
  refine st_iconst dX12_term_8 ?_
  refine sr_icmp_ne 19 r1 ⟨by decide, by decide⟩ (by decide) dX12_term_9 (fun h1 => ?_) (fun h1 => ?_)
  · have h1 : ¬ (mem 65 4) = (-1) := by omega
    refine st_iconst dX12_term_19 ?_
    refine st_istore_n (i := 1) rfl (by decide) (lc' := [(2, 65), (0, (-1))]) rfl dX12_term_20 ?_
    exact st_locals [(2, 65), (0, (-1))] ⟨Or.inr rfl, Or.inr rfl, trivial⟩ (k1 h1)
  · have h1 : (mem 65 4) = (-1) := by omega
    refine st_aload_n (i := 0) rfl (t := 0) rfl (by decide) dX12_term_12 ?_
    refine st_callV (kc2 := 0) (ks2 := 0) (av := []) 65 11 mr_X12_143 ok_X12_look (c_X12_look mem ((s1 h1)) ((s2 h1))) rfl sh_65 ⟨_, rfl, rfl, by decide⟩ rfl rfl hd2 (Nat.le_refl 0) (Nat.le_refl 0) (Nat.le_of_ble_eq_true rfl) dX12_term_13 (mQ.elim fun v1 m1 hp => ?_)
    obtain ⟨hpv, hpm⟩ := hp
    subst hpv
    have hpm := hpm.symm
    subst hpm
    refine st_goto 20 (by decide) dX12_term_16 ?_
    refine st_istore_n (i := 1) rfl (by decide) (lc' := [(2, 65), (0, (hereM (lookM mem)))]) rfl dX12_term_20 ?_
    exact st_locals [(2, 65), (0, (hereM (lookM mem)))] ⟨Or.inr rfl, Or.inr rfl, trivial⟩ (k2 h1)
theorem bk_X12_term_21 {d : Nat} {P : mmM → Prop} {mem : mmM} {x1 : Int}
  (k1 : x1 = 42 → mmT bX12_term d 0 0 (mQv P) 33 [(2, 65), (0, x1)] [] mS mem)
  (k2 : ¬ x1 = 42 → x1 = 47 → mmT bX12_term d 0 0 (mQv P) 33 [(2, 65), (0, x1)] [] mS mem)
  (q1 : ¬ x1 = 42 → ¬ x1 = 47 → P mem)
  (s1 : R32 x1 := by intros; first | omega | assumption | solve_by_elim)
  : mmT bX12_term d 0 0 (mQv P) 21 [(2, 65), (0, x1)] [] mS mem := by
  refine st_iload_n (i := 1) rfl rfl dX12_term_21 ?_
  refine st_bipush rfl dX12_term_22 ?_
  refine sr_icmp_eq 33 s1 ⟨by decide, by decide⟩ (by decide) dX12_term_24 (fun h1 => ?_) (fun h1 => ?_)
  · have h1 : x1 = 42 := by omega
    exact st_locals [(2, 65), (0, x1)] ⟨Or.inr rfl, Or.inr rfl, trivial⟩ (k1 h1)
  · have h1 : ¬ x1 = 42 := by omega
    refine st_iload_n (i := 1) rfl rfl dX12_term_27 ?_
    refine st_bipush rfl dX12_term_28 ?_
    refine sr_icmp_ne 83 s1 ⟨by decide, by decide⟩ (by decide) dX12_term_30 (fun h2 => ?_) (fun h2 => ?_)
    · have h2 : ¬ x1 = 47 := by omega
      exact st_return rfl dX12_term_83 (mQv.ret (q1 h1 h2))
    · have h2 : x1 = 47 := by omega
      exact st_locals [(2, 65), (0, x1)] ⟨Or.inr rfl, Or.inr rfl, trivial⟩ (k2 h1 h2)
theorem bk_X12_term_33 {d : Nat} {d1 : Nat} {P1 : mmM → Prop} {P : mmM → Prop} {mem : mmM} {x1 : Int}
  (c1 : conv bX12_atom d1 [(2, 65)] (mset mem 65 3 ((mem 65 3) + 1)) P1)
  (k1 : ∀ (m1 : mmM), P1 m1 → ¬ x1 = 42 → mmT bX12_term d 0 0 (mQv P) 63 [(2, 65), (9, 0)] [] mS (putM m1 5 0))
  (k2 : ∀ (m1 : mmM), P1 m1 → x1 = 42 → mmT bX12_term d 0 0 (mQv P) 63 [(2, 65), (9, 0)] [] mS (putM m1 4 0))
  (hd_d1 : d1 + 1 ≤ d := by omega)
  (hd1 : 1 ≤ d := by omega)
  (s1 : R32 ((mem 65 3) + 1) := by intros; first | omega | assumption | solve_by_elim)
  (s2 : ∀ (m1 : mmM), P1 m1 → R32 x1 := by intros; first | omega | assumption | solve_by_elim)
  (s3 : ∀ (m1 : mmM), P1 m1 → ¬ x1 = 42 → putOK m1 := by intros; first | omega | assumption | solve_by_elim)
  (s4 : ∀ (m1 : mmM), P1 m1 → x1 = 42 → putOK m1 := by intros; first | omega | assumption | solve_by_elim)
  : mmT bX12_term d 0 0 (mQv P) 33 [(2, 65), (0, x1)] [] mS mem := by
  refine st_aload_n (i := 0) rfl (t := 0) rfl (by decide) dX12_term_33 ?_
  refine st_dup (Nat.ne_of_beq_eq_false rfl) dX12_term_34 ?_
  refine so_getI (v := (mem 65 3)) 65 3 fr_X12_124_11 rfl sh_65 rfl dX12_term_35 (fun r1 => ?_)
  refine st_iconst dX12_term_38 ?_
  refine st_iadd dX12_term_39 ?_
  refine so_putI 65 3 fr_X12_124_11 pf_11_3 fo_65_3 rfl sh_65 s1 dX12_term_40 ?_
  refine st_aload_n (i := 0) rfl (t := 0) rfl (by decide) dX12_term_43 ?_
  refine st_callV (kc2 := 0) (ks2 := 0) (av := []) 65 11 mr_X12_171 ok_X12_atom c1 rfl sh_65 ⟨_, rfl, rfl, by decide⟩ rfl rfl hd_d1 (Nat.le_refl 0) (Nat.le_refl 0) (Nat.le_of_ble_eq_true rfl) dX12_term_44 (mQv.elim fun m1 p1 => ?_)
  refine st_aload_n (i := 0) rfl (t := 0) rfl (by decide) dX12_term_47 ?_
  refine st_iload_n (i := 1) rfl rfl dX12_term_48 ?_
  refine st_bipush rfl dX12_term_49 ?_
  refine sr_icmp_ne 58 (s2 m1 p1) ⟨by decide, by decide⟩ (by decide) dX12_term_51 (fun h1 => ?_) (fun h1 => ?_)
  · have h1 : ¬ x1 = 42 := by omega
    refine st_iconst dX12_term_58 ?_
    refine st_iconst dX12_term_59 ?_
    refine st_callV (kc2 := 0) (ks2 := 0) (av := [(0, 5), (0, 0)]) 65 11 mr_X12_153 ok_X12_put (c_X12_put m1 5 0 (⟨by decide, by decide⟩) (⟨by decide, by decide⟩) ((s3 m1 p1 h1))) rfl sh_65 ⟨_, rfl, rfl, by decide⟩ rfl rfl hd1 (Nat.le_refl 0) (Nat.le_refl 0) (Nat.le_of_ble_eq_true rfl) dX12_term_60 (mQv.elim fun m2 hp => ?_)
    have hp := hp.symm
    subst hp
    exact st_locals [(2, 65), (9, 0)] ⟨Or.inr rfl, Or.inl rfl, trivial⟩ (k1 m1 p1 h1)
  · have h1 : x1 = 42 := by omega
    refine st_iconst dX12_term_54 ?_
    refine st_goto 59 (by decide) dX12_term_55 ?_
    refine st_iconst dX12_term_59 ?_
    refine st_callV (kc2 := 0) (ks2 := 0) (av := [(0, 4), (0, 0)]) 65 11 mr_X12_153 ok_X12_put (c_X12_put m1 4 0 (⟨by decide, by decide⟩) (⟨by decide, by decide⟩) ((s4 m1 p1 h1))) rfl sh_65 ⟨_, rfl, rfl, by decide⟩ rfl rfl hd1 (Nat.le_refl 0) (Nat.le_refl 0) (Nat.le_of_ble_eq_true rfl) dX12_term_60 (mQv.elim fun m3 hp => ?_)
    have hp := hp.symm
    subst hp
    exact st_locals [(2, 65), (9, 0)] ⟨Or.inr rfl, Or.inl rfl, trivial⟩ (k2 m1 p1 h1)
theorem bk_X12_term_63 {d : Nat} {P : mmM → Prop} {mem : mmM}
  (k1 : ¬ (mem 65 4) = (-1) → mmT bX12_term d 0 0 (mQv P) 21 [(2, 65), (0, (-1))] [] mS mem)
  (k2 : (mem 65 4) = (-1) → mmT bX12_term d 0 0 (mQv P) 21 [(2, 65), (0, (hereM (lookM mem)))] [] mS (lookM mem))
  (hd2 : 2 ≤ d := by omega)
  (s1 : (mem 65 4) = (-1) → bytM mem := by intros; first | omega | assumption | solve_by_elim)
  (s2 : (mem 65 4) = (-1) → 0 ≤ (mem 65 3) := by intros; first | omega | assumption | solve_by_elim)
  : mmT bX12_term d 0 0 (mQv P) 63 [(2, 65), (9, 0)] [] mS mem := by
  refine st_aload_n (i := 0) rfl (t := 0) rfl (by decide) dX12_term_63 ?_
  refine so_getI (v := (mem 65 4)) 65 4 fr_X12_131_11 rfl sh_65 rfl dX12_term_64 (fun r1 => ?_)
  refine st_iconst dX12_term_67 ?_
  refine sr_icmp_ne 78 r1 ⟨by decide, by decide⟩ (by decide) dX12_term_68 (fun h1 => ?_) (fun h1 => ?_)
  · have h1 : ¬ (mem 65 4) = (-1) := by omega
    refine st_iconst dX12_term_78 ?_
    refine st_istore_n (i := 1) rfl (by decide) (lc' := [(2, 65), (0, (-1))]) rfl dX12_term_79 ?_
    refine st_goto 21 (by decide) dX12_term_80 ?_
    exact st_locals [(2, 65), (0, (-1))] ⟨Or.inr rfl, Or.inr rfl, trivial⟩ (k1 h1)
  · have h1 : (mem 65 4) = (-1) := by omega
    refine st_aload_n (i := 0) rfl (t := 0) rfl (by decide) dX12_term_71 ?_
    refine st_callV (kc2 := 0) (ks2 := 0) (av := []) 65 11 mr_X12_143 ok_X12_look (c_X12_look mem ((s1 h1)) ((s2 h1))) rfl sh_65 ⟨_, rfl, rfl, by decide⟩ rfl rfl hd2 (Nat.le_refl 0) (Nat.le_refl 0) (Nat.le_of_ble_eq_true rfl) dX12_term_72 (mQ.elim fun v1 m1 hp => ?_)
    obtain ⟨hpv, hpm⟩ := hp
    subst hpv
    have hpm := hpm.symm
    subst hpm
    refine st_goto 79 (by decide) dX12_term_75 ?_
    refine st_istore_n (i := 1) rfl (by decide) (lc' := [(2, 65), (0, (hereM (lookM mem)))]) rfl dX12_term_79 ?_
    refine st_goto 21 (by decide) dX12_term_80 ?_
    exact st_locals [(2, 65), (0, (hereM (lookM mem)))] ⟨Or.inr rfl, Or.inr rfl, trivial⟩ (k2 h1)
theorem am_Term (F : mmM → Int → PR) (dp : Int) (dA : Nat) (hd : 2 ≤ dA) (hA : ∀ m, preM m → m 65 5 = dp → conv bX12_atom dA [(2, 65)] m (resM m (F m (m 65 3)))) (hF : ∀ mem m, lmFr mem m → F m = F mem) (hg : ∀ m, bytM m → goodP (m 65 2) (F m)) (mem : mmM) (hp : preM mem) (h5 : mem 65 5 = dp) : conv bX12_term (dA + 1) [(2, 65)] mem (resM mem (chainP (CM mem) (SM mem) opT (F mem) (mem 65 3))) := by
  obtain ⟨hb, hw, p3, p14, pc, pd⟩ := id hp
  have hn := hb.1
  have stop : ∀ (R : PR) (f : Int) (m : mmM), failM mem f 0 m → R = .inl f → mmT bX12_term (dA + 1) 0 0 (mQv (resM mem R)) 21 [(2, 65), (0, -1)] [] mS m := by
    intro R f m h e
    rw [e]
    exact bk_X12_term_21 (fun g => absurd g (by decide)) (fun _ g => absurd g (by decide)) (fun _ _ => h) (s1 := ⟨by decide, by decide⟩)
  have main : ∀ (k : Nat) (R : PR) (m : mmM) (j : Int) (ts : List tokT), doneM mem j ts m → (mem 65 3 < j ∧ j ≤ mem 65 2 ∧ (ts.length : Int) ≤ j - mem 65 3) → mem 65 2 - j < k → R = loopP (CM mem) (SM mem) opT (F mem) k j ts → mmT bX12_term (dA + 1) 0 0 (mQv (resM mem R)) 21 [(2, 65), (0, hereM (lookM m))] [] mS (lookM m) := by
    intro k R
    induction k with
    | zero =>
      intro m j ts _ _ h
      omega
    | succ k ih =>
      intro m j ts hm hj hk hR
      obtain ⟨a1, a2, a3, a4, a5, -, -⟩ := id hm
      have ge := SM_ge mem j
      have le := SM_le (m := mem) (i := j) hj.2.1
      obtain ⟨s, hs⟩ : ∃ s, SM mem j = s := ⟨_, rfl⟩
      rw [hs] at ge le
      have lk : lookM m = cuM m s := by
        unfold lookM
        rw [lmFr_S a2, a3, hs]
      have rg := hereM_rng (cuM m s) (bytM_cu (lmFr_B a2 hb) s) (by rw [cuM_at]; omega)
      have i42 := hereM_is m (j := s) (c := 42) (by omega) (by decide)
      have i47 := hereM_is m (j := s) (c := 47) (by omega) (by decide)
      rw [lmFr_C a2] at i42 i47
      rw [lk]
      have go : ∀ (x1 op : Int), CM mem s = x1 → opT (CM mem s) = some op → (x1 = 42 → op = 4) → (¬ x1 = 42 → op = 5) → R32 x1 → mmT bX12_term (dA + 1) 0 0 (mQv (resM mem R)) 33 [(2, 65), (0, x1)] [] mS (cuM m s) := by
        intro x1 op hx ho o4 o5 rx
        have l : s < mem 65 2 := chT_in (T := mem 66) (opT_pos ho).1
        have pre := preM_cu hp hm (s := s + 1) (by omega)
        have at1 := hA (cuM m (s + 1)) pre (by rw [cuM_65 _ _ (by decide), a4, h5])
        have fr1 := lmFr_trans a2 (lmFr_cu m (s + 1))
        rw [hF mem _ fr1, cuM_at] at at1
        have after : ∀ m1, resM (cuM m (s + 1)) (F mem (s + 1)) m1 → putOK m1 ∧ mmT bX12_term (dA + 1) 0 0 (mQv (resM mem R)) 63 [(2, 65), (9, 0)] [] mS (putM m1 op 0) := by
          intro m1 w1
          cases hf : F mem (s + 1) with
          | inl f =>
            rw [hf] at w1
            have fl := failM_app hm (k := 1) (s := s + 1) (by omega) (by omega) w1
            have ok := putOK_fail hp fl (by decide)
            have fl2 := failM_put (c := op) (v := 0) fl ok
            have ne : ¬ putM m1 op 0 65 4 = -1 := by
              have := fl2.1
              have := fl2.2.1
              omega
            refine ⟨ok, bk_X12_term_63 (fun _ => stop R f _ fl2 ?_) (fun g => absurd g ne) (s1 := fun g => absurd g ne) (s2 := fun g => absurd g ne)⟩
            rw [hR]
            exact loopP_bad (by rw [hs]; exact ho) (by rw [hs]; exact hf)
          | inr x =>
            obtain ⟨q, us⟩ := x
            rw [hf] at w1
            have gd := (hg mem hb (s + 1) (by omega) (by omega)).2 q us hf
            have w2 := doneM_app (doneM_cu hm (s + 1)) w1
            have ll : (((ts ++ us).length : Nat) : Int) = ts.length + us.length := by
              rw [List.length_append]
              omega
            have ok := putOK_done hp w2 (by omega)
            have w3 := doneM_put (c := op) (v := 0) w2 ok
            refine ⟨ok, bk_X12_term_63 (fun g => absurd w3.1 g) (fun _ => ?_) (s1 := fun _ => lmFr_B w3.2.1 hb) (s2 := fun _ => by rw [w3.2.2.1]; omega)⟩
            refine ih _ q (ts ++ us ++ [(op, 0)]) w3 ⟨by omega, by omega, ?_⟩ (by omega) ?_
            · rw [List.length_append, List.length_singleton]
              omega
            · rw [hR]
              exact loopP_yes (by rw [hs]; exact ho) (by rw [hs]; exact hf)
        refine bk_X12_term_33 (d1 := dA) (P1 := resM (cuM m (s + 1)) (F mem (s + 1))) (by rw [cuM_at, cuM_mset]; exact at1) (fun m1 w1 g => ?_) (fun m1 w1 g => ?_) (s1 := by rw [cuM_at]; exact ⟨by omega, by omega⟩) (s2 := fun _ _ => rx) (s3 := fun m1 w1 _ => (after m1 w1).1) (s4 := fun m1 w1 _ => (after m1 w1).1)
        · have := (after m1 w1).2
          rw [o5 g] at this
          exact this
        · have := (after m1 w1).2
          rw [o4 g] at this
          exact this
      refine bk_X12_term_21 (fun g => ?_) (fun g g2 => ?_) (fun g g2 => ?_) (s1 := rg)
      · have z := i42.mp g
        rw [g]
        exact go 42 4 z (by rw [z]; rfl) (fun _ => rfl) (fun y => absurd rfl y) ⟨by decide, by decide⟩
      · have z := i47.mp g2
        rw [g2]
        exact go 47 5 z (by rw [z]; rfl) (fun y => absurd y (by decide)) (fun _ => rfl) ⟨by decide, by decide⟩
      · have no : opT (CM mem (SM mem j)) = none := by
          rw [hs]
          unfold opT
          rw [if_neg (fun z => g (i42.mpr z)), if_neg (fun z => g2 (i47.mpr z))]
        rw [hR, loopP_no no, hs]
        exact doneM_cu hm s
  refine cn_X12_term (bk_X12_term_0 (d1 := dA) (P1 := resM mem (F mem (mem 65 3))) (hA mem hp h5) (fun m1 w1 => ?_))
  cases hf : F mem (mem 65 3) with
  | inl f =>
    rw [hf] at w1
    have ne : ¬ m1 65 4 = -1 := by
      have := w1.1
      have := w1.2.1
      omega
    exact bk_X12_term_4 (fun _ => stop _ f m1 w1 (chainP_bad hf)) (fun g => absurd g ne) (s1 := fun g => absurd g ne) (s2 := fun g => absurd g ne)
  | inr x =>
    obtain ⟨q, ts⟩ := x
    rw [hf] at w1
    have gd := (hg mem hb (mem 65 3) p3.1 p3.2).2 q ts hf
    exact bk_X12_term_4 (fun g => absurd w1.1 g) (fun _ => main 200 _ m1 q ts w1 ⟨by omega, by omega, by omega⟩ (by omega) (chainP_yes hf)) (s1 := fun _ => lmFr_B w1.2.1 hb) (s2 := fun _ => by rw [w1.2.2.1]; omega)
theorem cn_X12_sum {d : Nat} {P : mmM → Prop} {mem : mmM} (h : mmT bX12_sum d 0 0 (mQv P) 0 [(2, 65), (9, 0)] [] mS mem) : conv bX12_sum d [(2, 65)] mem P := mmC_of [(2, 65), (9, 0)] ok_X12_sum.2.2.2.2 rfl (Nat.le_of_ble_eq_true rfl) h
theorem bk_X12_sum_0 {d : Nat} {d1 : Nat} {P1 : mmM → Prop} {P : mmM → Prop} {mem : mmM}
  (c1 : conv bX12_term d1 [(2, 65)] mem P1)
  (k1 : ∀ (m1 : mmM), P1 m1 → mmT bX12_sum d 0 0 (mQv P) 4 [(2, 65), (9, 0)] [] mS m1)
  (hd_d1 : d1 + 1 ≤ d := by omega)
  : mmT bX12_sum d 0 0 (mQv P) 0 [(2, 65), (9, 0)] [] mS mem := by
  refine st_aload_n (i := 0) rfl (t := 0) rfl (by decide) dX12_sum_0 ?_
  refine st_callV (kc2 := 0) (ks2 := 0) (av := []) 65 11 mr_X12_174 ok_X12_term c1 rfl sh_65 ⟨_, rfl, rfl, by decide⟩ rfl rfl hd_d1 (Nat.le_refl 0) (Nat.le_refl 0) (Nat.le_of_ble_eq_true rfl) dX12_sum_1 (mQv.elim fun m1 p1 => ?_)
  exact st_locals [(2, 65), (9, 0)] ⟨Or.inr rfl, Or.inl rfl, trivial⟩ (k1 m1 p1)
theorem bk_X12_sum_4 {d : Nat} {P : mmM → Prop} {mem : mmM}
  (k1 : ¬ (mem 65 4) = (-1) → mmT bX12_sum d 0 0 (mQv P) 21 [(2, 65), (0, (-1))] [] mS mem)
  (k2 : (mem 65 4) = (-1) → mmT bX12_sum d 0 0 (mQv P) 21 [(2, 65), (0, (hereM (lookM mem)))] [] mS (lookM mem))
  (hd2 : 2 ≤ d := by omega)
  (s1 : (mem 65 4) = (-1) → bytM mem := by intros; first | omega | assumption | solve_by_elim)
  (s2 : (mem 65 4) = (-1) → 0 ≤ (mem 65 3) := by intros; first | omega | assumption | solve_by_elim)
  : mmT bX12_sum d 0 0 (mQv P) 4 [(2, 65), (9, 0)] [] mS mem := by
  refine st_aload_n (i := 0) rfl (t := 0) rfl (by decide) dX12_sum_4 ?_
  refine so_getI (v := (mem 65 4)) 65 4 fr_X12_131_11 rfl sh_65 rfl dX12_sum_5 (fun r1 => ?_)
  refine st_iconst dX12_sum_8 ?_
  refine sr_icmp_ne 19 r1 ⟨by decide, by decide⟩ (by decide) dX12_sum_9 (fun h1 => ?_) (fun h1 => ?_)
  · have h1 : ¬ (mem 65 4) = (-1) := by omega
    refine st_iconst dX12_sum_19 ?_
    refine st_istore_n (i := 1) rfl (by decide) (lc' := [(2, 65), (0, (-1))]) rfl dX12_sum_20 ?_
    exact st_locals [(2, 65), (0, (-1))] ⟨Or.inr rfl, Or.inr rfl, trivial⟩ (k1 h1)
  · have h1 : (mem 65 4) = (-1) := by omega
    refine st_aload_n (i := 0) rfl (t := 0) rfl (by decide) dX12_sum_12 ?_
    refine st_callV (kc2 := 0) (ks2 := 0) (av := []) 65 11 mr_X12_143 ok_X12_look (c_X12_look mem ((s1 h1)) ((s2 h1))) rfl sh_65 ⟨_, rfl, rfl, by decide⟩ rfl rfl hd2 (Nat.le_refl 0) (Nat.le_refl 0) (Nat.le_of_ble_eq_true rfl) dX12_sum_13 (mQ.elim fun v1 m1 hp => ?_)
    obtain ⟨hpv, hpm⟩ := hp
    subst hpv
    have hpm := hpm.symm
    subst hpm
    refine st_goto 20 (by decide) dX12_sum_16 ?_
    refine st_istore_n (i := 1) rfl (by decide) (lc' := [(2, 65), (0, (hereM (lookM mem)))]) rfl dX12_sum_20 ?_
    exact st_locals [(2, 65), (0, (hereM (lookM mem)))] ⟨Or.inr rfl, Or.inr rfl, trivial⟩ (k2 h1)
theorem bk_X12_sum_21 {d : Nat} {P : mmM → Prop} {mem : mmM} {x1 : Int}
  (k1 : x1 = 43 → mmT bX12_sum d 0 0 (mQv P) 33 [(2, 65), (0, x1)] [] mS mem)
  (k2 : ¬ x1 = 43 → x1 = 45 → mmT bX12_sum d 0 0 (mQv P) 33 [(2, 65), (0, x1)] [] mS mem)
  (q1 : ¬ x1 = 43 → ¬ x1 = 45 → P mem)
  (s1 : R32 x1 := by intros; first | omega | assumption | solve_by_elim)
  : mmT bX12_sum d 0 0 (mQv P) 21 [(2, 65), (0, x1)] [] mS mem := by
  refine st_iload_n (i := 1) rfl rfl dX12_sum_21 ?_
  refine st_bipush rfl dX12_sum_22 ?_
  refine sr_icmp_eq 33 s1 ⟨by decide, by decide⟩ (by decide) dX12_sum_24 (fun h1 => ?_) (fun h1 => ?_)
  · have h1 : x1 = 43 := by omega
    exact st_locals [(2, 65), (0, x1)] ⟨Or.inr rfl, Or.inr rfl, trivial⟩ (k1 h1)
  · have h1 : ¬ x1 = 43 := by omega
    refine st_iload_n (i := 1) rfl rfl dX12_sum_27 ?_
    refine st_bipush rfl dX12_sum_28 ?_
    refine sr_icmp_ne 83 s1 ⟨by decide, by decide⟩ (by decide) dX12_sum_30 (fun h2 => ?_) (fun h2 => ?_)
    · have h2 : ¬ x1 = 45 := by omega
      exact st_return rfl dX12_sum_83 (mQv.ret (q1 h1 h2))
    · have h2 : x1 = 45 := by omega
      exact st_locals [(2, 65), (0, x1)] ⟨Or.inr rfl, Or.inr rfl, trivial⟩ (k2 h1 h2)
theorem bk_X12_sum_33 {d : Nat} {d1 : Nat} {P1 : mmM → Prop} {P : mmM → Prop} {mem : mmM} {x1 : Int}
  (c1 : conv bX12_term d1 [(2, 65)] (mset mem 65 3 ((mem 65 3) + 1)) P1)
  (k1 : ∀ (m1 : mmM), P1 m1 → ¬ x1 = 43 → mmT bX12_sum d 0 0 (mQv P) 63 [(2, 65), (9, 0)] [] mS (putM m1 3 0))
  (k2 : ∀ (m1 : mmM), P1 m1 → x1 = 43 → mmT bX12_sum d 0 0 (mQv P) 63 [(2, 65), (9, 0)] [] mS (putM m1 2 0))
  (hd_d1 : d1 + 1 ≤ d := by omega)
  (hd1 : 1 ≤ d := by omega)
  (s1 : R32 ((mem 65 3) + 1) := by intros; first | omega | assumption | solve_by_elim)
  (s2 : ∀ (m1 : mmM), P1 m1 → R32 x1 := by intros; first | omega | assumption | solve_by_elim)
  (s3 : ∀ (m1 : mmM), P1 m1 → ¬ x1 = 43 → putOK m1 := by intros; first | omega | assumption | solve_by_elim)
  (s4 : ∀ (m1 : mmM), P1 m1 → x1 = 43 → putOK m1 := by intros; first | omega | assumption | solve_by_elim)
  : mmT bX12_sum d 0 0 (mQv P) 33 [(2, 65), (0, x1)] [] mS mem := by
  refine st_aload_n (i := 0) rfl (t := 0) rfl (by decide) dX12_sum_33 ?_
  refine st_dup (Nat.ne_of_beq_eq_false rfl) dX12_sum_34 ?_
  refine so_getI (v := (mem 65 3)) 65 3 fr_X12_124_11 rfl sh_65 rfl dX12_sum_35 (fun r1 => ?_)
  refine st_iconst dX12_sum_38 ?_
  refine st_iadd dX12_sum_39 ?_
  refine so_putI 65 3 fr_X12_124_11 pf_11_3 fo_65_3 rfl sh_65 s1 dX12_sum_40 ?_
  refine st_aload_n (i := 0) rfl (t := 0) rfl (by decide) dX12_sum_43 ?_
  refine st_callV (kc2 := 0) (ks2 := 0) (av := []) 65 11 mr_X12_174 ok_X12_term c1 rfl sh_65 ⟨_, rfl, rfl, by decide⟩ rfl rfl hd_d1 (Nat.le_refl 0) (Nat.le_refl 0) (Nat.le_of_ble_eq_true rfl) dX12_sum_44 (mQv.elim fun m1 p1 => ?_)
  refine st_aload_n (i := 0) rfl (t := 0) rfl (by decide) dX12_sum_47 ?_
  refine st_iload_n (i := 1) rfl rfl dX12_sum_48 ?_
  refine st_bipush rfl dX12_sum_49 ?_
  refine sr_icmp_ne 58 (s2 m1 p1) ⟨by decide, by decide⟩ (by decide) dX12_sum_51 (fun h1 => ?_) (fun h1 => ?_)
  · have h1 : ¬ x1 = 43 := by omega
    refine st_iconst dX12_sum_58 ?_
    refine st_iconst dX12_sum_59 ?_
    refine st_callV (kc2 := 0) (ks2 := 0) (av := [(0, 3), (0, 0)]) 65 11 mr_X12_153 ok_X12_put (c_X12_put m1 3 0 (⟨by decide, by decide⟩) (⟨by decide, by decide⟩) ((s3 m1 p1 h1))) rfl sh_65 ⟨_, rfl, rfl, by decide⟩ rfl rfl hd1 (Nat.le_refl 0) (Nat.le_refl 0) (Nat.le_of_ble_eq_true rfl) dX12_sum_60 (mQv.elim fun m2 hp => ?_)
    have hp := hp.symm
    subst hp
    exact st_locals [(2, 65), (9, 0)] ⟨Or.inr rfl, Or.inl rfl, trivial⟩ (k1 m1 p1 h1)
  · have h1 : x1 = 43 := by omega
    refine st_iconst dX12_sum_54 ?_
    refine st_goto 59 (by decide) dX12_sum_55 ?_
    refine st_iconst dX12_sum_59 ?_
    refine st_callV (kc2 := 0) (ks2 := 0) (av := [(0, 2), (0, 0)]) 65 11 mr_X12_153 ok_X12_put (c_X12_put m1 2 0 (⟨by decide, by decide⟩) (⟨by decide, by decide⟩) ((s4 m1 p1 h1))) rfl sh_65 ⟨_, rfl, rfl, by decide⟩ rfl rfl hd1 (Nat.le_refl 0) (Nat.le_refl 0) (Nat.le_of_ble_eq_true rfl) dX12_sum_60 (mQv.elim fun m3 hp => ?_)
    have hp := hp.symm
    subst hp
    exact st_locals [(2, 65), (9, 0)] ⟨Or.inr rfl, Or.inl rfl, trivial⟩ (k2 m1 p1 h1)
theorem bk_X12_sum_63 {d : Nat} {P : mmM → Prop} {mem : mmM}
  (k1 : ¬ (mem 65 4) = (-1) → mmT bX12_sum d 0 0 (mQv P) 21 [(2, 65), (0, (-1))] [] mS mem)
  (k2 : (mem 65 4) = (-1) → mmT bX12_sum d 0 0 (mQv P) 21 [(2, 65), (0, (hereM (lookM mem)))] [] mS (lookM mem))
  (hd2 : 2 ≤ d := by omega)
  (s1 : (mem 65 4) = (-1) → bytM mem := by intros; first | omega | assumption | solve_by_elim)
  (s2 : (mem 65 4) = (-1) → 0 ≤ (mem 65 3) := by intros; first | omega | assumption | solve_by_elim)
  : mmT bX12_sum d 0 0 (mQv P) 63 [(2, 65), (9, 0)] [] mS mem := by
  refine st_aload_n (i := 0) rfl (t := 0) rfl (by decide) dX12_sum_63 ?_
  refine so_getI (v := (mem 65 4)) 65 4 fr_X12_131_11 rfl sh_65 rfl dX12_sum_64 (fun r1 => ?_)
  refine st_iconst dX12_sum_67 ?_
  refine sr_icmp_ne 78 r1 ⟨by decide, by decide⟩ (by decide) dX12_sum_68 (fun h1 => ?_) (fun h1 => ?_)
  · have h1 : ¬ (mem 65 4) = (-1) := by omega
    refine st_iconst dX12_sum_78 ?_
    refine st_istore_n (i := 1) rfl (by decide) (lc' := [(2, 65), (0, (-1))]) rfl dX12_sum_79 ?_
    refine st_goto 21 (by decide) dX12_sum_80 ?_
    exact st_locals [(2, 65), (0, (-1))] ⟨Or.inr rfl, Or.inr rfl, trivial⟩ (k1 h1)
  · have h1 : (mem 65 4) = (-1) := by omega
    refine st_aload_n (i := 0) rfl (t := 0) rfl (by decide) dX12_sum_71 ?_
    refine st_callV (kc2 := 0) (ks2 := 0) (av := []) 65 11 mr_X12_143 ok_X12_look (c_X12_look mem ((s1 h1)) ((s2 h1))) rfl sh_65 ⟨_, rfl, rfl, by decide⟩ rfl rfl hd2 (Nat.le_refl 0) (Nat.le_refl 0) (Nat.le_of_ble_eq_true rfl) dX12_sum_72 (mQ.elim fun v1 m1 hp => ?_)
    obtain ⟨hpv, hpm⟩ := hp
    subst hpv
    have hpm := hpm.symm
    subst hpm
    refine st_goto 79 (by decide) dX12_sum_75 ?_
    refine st_istore_n (i := 1) rfl (by decide) (lc' := [(2, 65), (0, (hereM (lookM mem)))]) rfl dX12_sum_79 ?_
    refine st_goto 21 (by decide) dX12_sum_80 ?_
    exact st_locals [(2, 65), (0, (hereM (lookM mem)))] ⟨Or.inr rfl, Or.inr rfl, trivial⟩ (k2 h1)
theorem am_Sum (F : mmM → Int → PR) (dp : Int) (dA : Nat) (hd : 2 ≤ dA) (hA : ∀ m, preM m → m 65 5 = dp → conv bX12_term dA [(2, 65)] m (resM m (F m (m 65 3)))) (hF : ∀ mem m, lmFr mem m → F m = F mem) (hg : ∀ m, bytM m → goodP (m 65 2) (F m)) (mem : mmM) (hp : preM mem) (h5 : mem 65 5 = dp) : conv bX12_sum (dA + 1) [(2, 65)] mem (resM mem (chainP (CM mem) (SM mem) opS (F mem) (mem 65 3))) := by
  obtain ⟨hb, hw, p3, p14, pc, pd⟩ := id hp
  have hn := hb.1
  have stop : ∀ (R : PR) (f : Int) (m : mmM), failM mem f 0 m → R = .inl f → mmT bX12_sum (dA + 1) 0 0 (mQv (resM mem R)) 21 [(2, 65), (0, -1)] [] mS m := by
    intro R f m h e
    rw [e]
    exact bk_X12_sum_21 (fun g => absurd g (by decide)) (fun _ g => absurd g (by decide)) (fun _ _ => h) (s1 := ⟨by decide, by decide⟩)
  have main : ∀ (k : Nat) (R : PR) (m : mmM) (j : Int) (ts : List tokT), doneM mem j ts m → (mem 65 3 < j ∧ j ≤ mem 65 2 ∧ (ts.length : Int) ≤ j - mem 65 3) → mem 65 2 - j < k → R = loopP (CM mem) (SM mem) opS (F mem) k j ts → mmT bX12_sum (dA + 1) 0 0 (mQv (resM mem R)) 21 [(2, 65), (0, hereM (lookM m))] [] mS (lookM m) := by
    intro k R
    induction k with
    | zero =>
      intro m j ts _ _ h
      omega
    | succ k ih =>
      intro m j ts hm hj hk hR
      obtain ⟨a1, a2, a3, a4, a5, -, -⟩ := id hm
      have ge := SM_ge mem j
      have le := SM_le (m := mem) (i := j) hj.2.1
      obtain ⟨s, hs⟩ : ∃ s, SM mem j = s := ⟨_, rfl⟩
      rw [hs] at ge le
      have lk : lookM m = cuM m s := by
        unfold lookM
        rw [lmFr_S a2, a3, hs]
      have rg := hereM_rng (cuM m s) (bytM_cu (lmFr_B a2 hb) s) (by rw [cuM_at]; omega)
      have i43 := hereM_is m (j := s) (c := 43) (by omega) (by decide)
      have i45 := hereM_is m (j := s) (c := 45) (by omega) (by decide)
      rw [lmFr_C a2] at i43 i45
      rw [lk]
      have go : ∀ (x1 op : Int), CM mem s = x1 → opS (CM mem s) = some op → (x1 = 43 → op = 2) → (¬ x1 = 43 → op = 3) → R32 x1 → mmT bX12_sum (dA + 1) 0 0 (mQv (resM mem R)) 33 [(2, 65), (0, x1)] [] mS (cuM m s) := by
        intro x1 op hx ho o4 o5 rx
        have l : s < mem 65 2 := chT_in (T := mem 66) (opS_pos ho).1
        have pre := preM_cu hp hm (s := s + 1) (by omega)
        have at1 := hA (cuM m (s + 1)) pre (by rw [cuM_65 _ _ (by decide), a4, h5])
        have fr1 := lmFr_trans a2 (lmFr_cu m (s + 1))
        rw [hF mem _ fr1, cuM_at] at at1
        have after : ∀ m1, resM (cuM m (s + 1)) (F mem (s + 1)) m1 → putOK m1 ∧ mmT bX12_sum (dA + 1) 0 0 (mQv (resM mem R)) 63 [(2, 65), (9, 0)] [] mS (putM m1 op 0) := by
          intro m1 w1
          cases hf : F mem (s + 1) with
          | inl f =>
            rw [hf] at w1
            have fl := failM_app hm (k := 1) (s := s + 1) (by omega) (by omega) w1
            have ok := putOK_fail hp fl (by decide)
            have fl2 := failM_put (c := op) (v := 0) fl ok
            have ne : ¬ putM m1 op 0 65 4 = -1 := by
              have := fl2.1
              have := fl2.2.1
              omega
            refine ⟨ok, bk_X12_sum_63 (fun _ => stop R f _ fl2 ?_) (fun g => absurd g ne) (s1 := fun g => absurd g ne) (s2 := fun g => absurd g ne)⟩
            rw [hR]
            exact loopP_bad (by rw [hs]; exact ho) (by rw [hs]; exact hf)
          | inr x =>
            obtain ⟨q, us⟩ := x
            rw [hf] at w1
            have gd := (hg mem hb (s + 1) (by omega) (by omega)).2 q us hf
            have w2 := doneM_app (doneM_cu hm (s + 1)) w1
            have ll : (((ts ++ us).length : Nat) : Int) = ts.length + us.length := by
              rw [List.length_append]
              omega
            have ok := putOK_done hp w2 (by omega)
            have w3 := doneM_put (c := op) (v := 0) w2 ok
            refine ⟨ok, bk_X12_sum_63 (fun g => absurd w3.1 g) (fun _ => ?_) (s1 := fun _ => lmFr_B w3.2.1 hb) (s2 := fun _ => by rw [w3.2.2.1]; omega)⟩
            refine ih _ q (ts ++ us ++ [(op, 0)]) w3 ⟨by omega, by omega, ?_⟩ (by omega) ?_
            · rw [List.length_append, List.length_singleton]
              omega
            · rw [hR]
              exact loopP_yes (by rw [hs]; exact ho) (by rw [hs]; exact hf)
        refine bk_X12_sum_33 (d1 := dA) (P1 := resM (cuM m (s + 1)) (F mem (s + 1))) (by rw [cuM_at, cuM_mset]; exact at1) (fun m1 w1 g => ?_) (fun m1 w1 g => ?_) (s1 := by rw [cuM_at]; exact ⟨by omega, by omega⟩) (s2 := fun _ _ => rx) (s3 := fun m1 w1 _ => (after m1 w1).1) (s4 := fun m1 w1 _ => (after m1 w1).1)
        · have := (after m1 w1).2
          rw [o5 g] at this
          exact this
        · have := (after m1 w1).2
          rw [o4 g] at this
          exact this
      refine bk_X12_sum_21 (fun g => ?_) (fun g g2 => ?_) (fun g g2 => ?_) (s1 := rg)
      · have z := i43.mp g
        rw [g]
        exact go 43 2 z (by rw [z]; rfl) (fun _ => rfl) (fun y => absurd rfl y) ⟨by decide, by decide⟩
      · have z := i45.mp g2
        rw [g2]
        exact go 45 3 z (by rw [z]; rfl) (fun y => absurd y (by decide)) (fun _ => rfl) ⟨by decide, by decide⟩
      · have no : opS (CM mem (SM mem j)) = none := by
          rw [hs]
          unfold opS
          rw [if_neg (fun z => g (i43.mpr z)), if_neg (fun z => g2 (i45.mpr z))]
        rw [hR, loopP_no no, hs]
        exact doneM_cu hm s
  refine cn_X12_sum (bk_X12_sum_0 (d1 := dA) (P1 := resM mem (F mem (mem 65 3))) (hA mem hp h5) (fun m1 w1 => ?_))
  cases hf : F mem (mem 65 3) with
  | inl f =>
    rw [hf] at w1
    have ne : ¬ m1 65 4 = -1 := by
      have := w1.1
      have := w1.2.1
      omega
    exact bk_X12_sum_4 (fun _ => stop _ f m1 w1 (chainP_bad hf)) (fun g => absurd g ne) (s1 := fun g => absurd g ne) (s2 := fun g => absurd g ne)
  | inr x =>
    obtain ⟨q, ts⟩ := x
    rw [hf] at w1
    have gd := (hg mem hb (mem 65 3) p3.1 p3.2).2 q ts hf
    exact bk_X12_sum_4 (fun g => absurd w1.1 g) (fun _ => main 200 _ m1 q ts w1 ⟨by omega, by omega, by omega⟩ (by omega) (chainP_yes hf)) (s1 := fun _ => lmFr_B w1.2.1 hb) (s2 := fun _ => by rw [w1.2.2.1]; omega)
theorem nestS_M {mem m : mmM} (h : lmFr mem m) (r : Nat) : nestS (CM m) (SM m) r = nestS (CM mem) (SM mem) r := by rw [lmFr_C h, lmFr_S h]
theorem good_nestM (mem : mmM) (r : Nat) : ∀ f, nestS (CM mem) (SM mem) r = some f → goodP (mem 65 2) f := by
  intro f h
  cases r with
  | zero => cases h
  | succ r =>
    cases h
    exact good_sum (tapM_P mem) r
theorem c_X12_sum : ∀ (r : Nat), r ≤ 6 → ∀ (mem : mmM), preM mem → mem 65 5 = 6 - (r : Int) → conv bX12_sum (3 * r + 5) [(2, 65)] mem (resM mem (sumL (CM mem) (SM mem) r (mem 65 3))) := by
  intro r
  induction r with
  | zero =>
    intro _ mem hp h5
    have A := fun m hm h5 => am_Atom 0 2 (by decide) (fun r' e => by cases e) m hm h5
    have T := fun m hm h5 => am_Term (fun m => atomP (CM m) (SM m) (nestS (CM m) (SM m) 0)) (6 - ((0 : Nat) : Int)) 3 (by decide) A (fun mem m h => by show atomP _ _ _ = atomP _ _ _; rw [lmFr_C h, lmFr_S h]) (fun m _ => good_atom (tapM_P m) (good_nestM m 0)) m hm h5
    exact am_Sum (fun m => chainP (CM m) (SM m) opT (atomP (CM m) (SM m) (nestS (CM m) (SM m) 0))) (6 - ((0 : Nat) : Int)) 4 (by decide) T (fun mem m h => by show chainP _ _ _ _ = chainP _ _ _ _; rw [lmFr_C h, lmFr_S h]) (fun m _ => good_chain (tapM_P m) (fun _ _ h => (opT_pos h).1) (good_atom (tapM_P m) (good_nestM m 0))) mem hp h5
  | succ r ih =>
    intro hr mem hp h5
    have A := fun m hm h5 => am_Atom (r + 1) (3 * r + 5) (by omega) (fun r' e => by
      have e' : r' = r := by omega
      subst e'
      exact ih (by omega)) m hm h5
    have T := fun m hm h5 => am_Term (fun m => atomP (CM m) (SM m) (nestS (CM m) (SM m) (r + 1))) (6 - ((r + 1 : Nat) : Int)) (3 * r + 5 + 1) (by omega) A (fun mem m h => by show atomP _ _ _ = atomP _ _ _; rw [lmFr_C h, lmFr_S h]) (fun m _ => good_atom (tapM_P m) (good_nestM m (r + 1))) m hm h5
    exact am_Sum (fun m => chainP (CM m) (SM m) opT (atomP (CM m) (SM m) (nestS (CM m) (SM m) (r + 1)))) (6 - ((r + 1 : Nat) : Int)) (3 * r + 5 + 1 + 1) (by omega) T (fun mem m h => by show chainP _ _ _ _ = chainP _ _ _ _; rw [lmFr_C h, lmFr_S h]) (fun m _ => good_chain (tapM_P m) (fun _ _ h => (opT_pos h).1) (good_atom (tapM_P m) (good_nestM m (r + 1)))) mem hp h5
