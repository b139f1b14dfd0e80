/-! the model reads sums -/
theorem cn_X12_plainNumber {d : Nat} {P : Int → mmM → Prop} {mem : mmM} (h : mmT bX12_plainNumber d 0 0 (mQ 0 P) 0 [(2, 65), (9, 0), (9, 0)] [] mS mem) : con 0 bX12_plainNumber d [(2, 65)] mem P := mmC_of [(2, 65), (9, 0), (9, 0)] ok_X12_plainNumber.2.2.2.2 rfl (Nat.le_of_ble_eq_true rfl) h
theorem bk_X12_plainNumber_0 {d : Nat} {P : Int → mmM → Prop} {mem : mmM}
  (k1 : mmT bX12_plainNumber d 0 0 (mQ 0 P) 4 [(2, 65), (0, 0), (0, 0)] [] mS mem)
  : mmT bX12_plainNumber d 0 0 (mQ 0 P) 0 [(2, 65), (9, 0), (9, 0)] [] mS mem := by
  refine st_iconst dX12_plainNumber_0 ?_
  refine st_istore_n (i := 1) rfl (by decide) (lc' := [(2, 65), (0, 0), (9, 0)]) rfl dX12_plainNumber_1 ?_
  refine st_iconst dX12_plainNumber_2 ?_
  refine st_istore_n (i := 2) rfl (by decide) (lc' := [(2, 65), (0, 0), (0, 0)]) rfl dX12_plainNumber_3 ?_
  exact st_locals [(2, 65), (0, 0), (0, 0)] ⟨Or.inr rfl, Or.inr rfl, Or.inr rfl, trivial⟩ k1
theorem bk_X12_plainNumber_4 {d : Nat} {P : Int → mmM → Prop} {mem : mmM} {x1 x2 : Int}
  (k1 : x2 < 4 → (48 ≤ (hereM mem) ∧ (hereM mem) ≤ 57) → mmT bX12_plainNumber d 0 0 (mQ 0 P) 4 [(2, 65), (0, (((10 * x1) + (hereM mem)) - 48)), (0, (x2 + 1))] [] mS (mset mem 65 3 ((mem 65 3) + 1)))
  (q1 : 4 ≤ x2 → ¬ (48 ≤ (hereM mem) ∧ (hereM mem) ≤ 57) → P x1 mem)
  (q2 : 4 ≤ x2 → (48 ≤ (hereM mem) ∧ (hereM mem) ≤ 57) → P x1 (badM mem))
  (q3 : x2 < 4 → ¬ (48 ≤ (hereM mem) ∧ (hereM mem) ≤ 57) → ¬ (48 ≤ (hereM mem) ∧ (hereM mem) ≤ 57) → P x1 mem)
  (q4 : x2 < 4 → ¬ (48 ≤ (hereM mem) ∧ (hereM mem) ≤ 57) → (48 ≤ (hereM mem) ∧ (hereM mem) ≤ 57) → P x1 (badM mem))
  (hd1 : 1 ≤ d := by omega)
  (hd2 : 2 ≤ d := by omega)
  (s1 : R32 x2 := by intros; first | omega | assumption | solve_by_elim)
  (s2 : 4 ≤ x2 → bytM mem := by intros; first | omega | assumption | solve_by_elim)
  (s3 : 4 ≤ x2 → 0 ≤ (mem 65 3) := by intros; first | omega | assumption | solve_by_elim)
  (s4 : x2 < 4 → bytM mem := by intros; first | omega | assumption | solve_by_elim)
  (s5 : x2 < 4 → 0 ≤ (mem 65 3) := by intros; first | omega | assumption | solve_by_elim)
  (s6 : x2 < 4 → (48 ≤ (hereM mem) ∧ (hereM mem) ≤ 57) → R32 ((mem 65 3) + 1) := by intros; first | omega | assumption | solve_by_elim)
  : mmT bX12_plainNumber d 0 0 (mQ 0 P) 4 [(2, 65), (0, x1), (0, x2)] [] mS mem := by
  refine st_iload_n (i := 2) rfl rfl dX12_plainNumber_4 ?_
  refine st_iconst dX12_plainNumber_5 ?_
  refine sr_icmp_ge 48 s1 ⟨by decide, by decide⟩ (by decide) dX12_plainNumber_6 (fun h1 => ?_) (fun h1 => ?_)
  · have h1 : 4 ≤ x2 := by omega
    refine st_aload_n (i := 0) rfl (t := 0) rfl (by decide) dX12_plainNumber_48 ?_
    refine st_callV (kc2 := 0) (ks2 := 0) (av := []) 65 11 mr_X12_127 ok_X12_here (c_X12_here mem ((s2 h1)) ((s3 h1))) rfl sh_65 ⟨_, rfl, rfl, by decide⟩ rfl rfl hd1 (Nat.le_refl 0) (Nat.le_refl 0) (Nat.le_of_ble_eq_true rfl) dX12_plainNumber_49 (mQ.elim fun v1 m1 hp => ?_)
    obtain ⟨hpv, hpm⟩ := hp
    subst hpv
    have hpm := hpm.symm
    subst hpm
    refine st_callS (kc2 := 0) (ks2 := 0) (av := [(0, (hereM mem))]) mr_X12_146 ok_X12_isDigit (c_X12_isDigit mem (hereM mem) ((hereM_rng mem ((s2 h1)) ((s3 h1))))) rfl rfl hd2 (Nat.le_refl 0) (Nat.le_refl 0) (Nat.le_of_ble_eq_true rfl) dX12_plainNumber_52 (mQ.elim fun v2 m2 hp => ?_)
    obtain ⟨hpv, hpm⟩ := hp
    subst hpv
    have hpm := hpm.symm
    subst hpm
    refine so_ifeqB 62 (by decide) dX12_plainNumber_55 (fun h2 => ?_) (fun h2 => ?_)
    · have h2 : ¬ (48 ≤ (hereM mem) ∧ (hereM mem) ≤ 57) := h2
      refine st_iload_n (i := 1) rfl rfl dX12_plainNumber_62 ?_
      exact st_ireturn rfl dX12_plainNumber_63 (mQ.ret (q1 h1 h2))
    · have h2 : (48 ≤ (hereM mem) ∧ (hereM mem) ≤ 57) := h2
      refine st_aload_n (i := 0) rfl (t := 0) rfl (by decide) dX12_plainNumber_58 ?_
      refine st_callV (kc2 := 0) (ks2 := 0) (av := []) 65 11 mr_X12_140 ok_X12_bad (c_X12_bad mem ) rfl sh_65 ⟨_, rfl, rfl, by decide⟩ rfl rfl hd1 (Nat.le_refl 0) (Nat.le_refl 0) (Nat.le_of_ble_eq_true rfl) dX12_plainNumber_59 (mQv.elim fun m3 hp => ?_)
      have hp := hp.symm
      subst hp
      refine st_iload_n (i := 1) rfl rfl dX12_plainNumber_62 ?_
      exact st_ireturn rfl dX12_plainNumber_63 (mQ.ret (q2 h1 h2))
  · have h1 : x2 < 4 := by omega
    refine st_aload_n (i := 0) rfl (t := 0) rfl (by decide) dX12_plainNumber_9 ?_
    refine st_callV (kc2 := 0) (ks2 := 0) (av := []) 65 11 mr_X12_127 ok_X12_here (c_X12_here mem ((s4 h1)) ((s5 h1))) rfl sh_65 ⟨_, rfl, rfl, by decide⟩ rfl rfl hd1 (Nat.le_refl 0) (Nat.le_refl 0) (Nat.le_of_ble_eq_true rfl) dX12_plainNumber_10 (mQ.elim fun v3 m4 hp => ?_)
    obtain ⟨hpv, hpm⟩ := hp
    subst hpv
    have hpm := hpm.symm
    subst hpm
    refine st_callS (kc2 := 0) (ks2 := 0) (av := [(0, (hereM mem))]) mr_X12_146 ok_X12_isDigit (c_X12_isDigit mem (hereM mem) ((hereM_rng mem ((s4 h1)) ((s5 h1))))) rfl rfl hd2 (Nat.le_refl 0) (Nat.le_refl 0) (Nat.le_of_ble_eq_true rfl) dX12_plainNumber_13 (mQ.elim fun v4 m5 hp => ?_)
    obtain ⟨hpv, hpm⟩ := hp
    subst hpv
    have hpm := hpm.symm
    subst hpm
    refine so_ifeqB 48 (by decide) dX12_plainNumber_16 (fun h3 => ?_) (fun h3 => ?_)
    · have h3 : ¬ (48 ≤ (hereM mem) ∧ (hereM mem) ≤ 57) := h3
      refine st_aload_n (i := 0) rfl (t := 0) rfl (by decide) dX12_plainNumber_48 ?_
      refine st_callV (kc2 := 0) (ks2 := 0) (av := []) 65 11 mr_X12_127 ok_X12_here (c_X12_here mem ((s4 h1)) ((s5 h1))) rfl sh_65 ⟨_, rfl, rfl, by decide⟩ rfl rfl hd1 (Nat.le_refl 0) (Nat.le_refl 0) (Nat.le_of_ble_eq_true rfl) dX12_plainNumber_49 (mQ.elim fun v5 m6 hp => ?_)
      obtain ⟨hpv, hpm⟩ := hp
      subst hpv
      have hpm := hpm.symm
      subst hpm
      refine st_callS (kc2 := 0) (ks2 := 0) (av := [(0, (hereM mem))]) mr_X12_146 ok_X12_isDigit (c_X12_isDigit mem (hereM mem) ((hereM_rng mem ((s4 h1)) ((s5 h1))))) rfl rfl hd2 (Nat.le_refl 0) (Nat.le_refl 0) (Nat.le_of_ble_eq_true rfl) dX12_plainNumber_52 (mQ.elim fun v6 m7 hp => ?_)
      obtain ⟨hpv, hpm⟩ := hp
      subst hpv
      have hpm := hpm.symm
      subst hpm
      refine so_ifeqB 62 (by decide) dX12_plainNumber_55 (fun h4 => ?_) (fun h4 => ?_)
      · have h4 : ¬ (48 ≤ (hereM mem) ∧ (hereM mem) ≤ 57) := h4
        refine st_iload_n (i := 1) rfl rfl dX12_plainNumber_62 ?_
        exact st_ireturn rfl dX12_plainNumber_63 (mQ.ret (q3 h1 h3 h4))
      · have h4 : (48 ≤ (hereM mem) ∧ (hereM mem) ≤ 57) := h4
        refine st_aload_n (i := 0) rfl (t := 0) rfl (by decide) dX12_plainNumber_58 ?_
        refine st_callV (kc2 := 0) (ks2 := 0) (av := []) 65 11 mr_X12_140 ok_X12_bad (c_X12_bad mem ) rfl sh_65 ⟨_, rfl, rfl, by decide⟩ rfl rfl hd1 (Nat.le_refl 0) (Nat.le_refl 0) (Nat.le_of_ble_eq_true rfl) dX12_plainNumber_59 (mQv.elim fun m8 hp => ?_)
        have hp := hp.symm
        subst hp
        refine st_iload_n (i := 1) rfl rfl dX12_plainNumber_62 ?_
        exact st_ireturn rfl dX12_plainNumber_63 (mQ.ret (q4 h1 h3 h4))
    · have h3 : (48 ≤ (hereM mem) ∧ (hereM mem) ≤ 57) := h3
      refine st_bipush rfl dX12_plainNumber_19 ?_
      refine st_iload_n (i := 1) rfl rfl dX12_plainNumber_21 ?_
      refine st_imul dX12_plainNumber_22 ?_
      refine st_aload_n (i := 0) rfl (t := 0) rfl (by decide) dX12_plainNumber_23 ?_
      refine st_callV (kc2 := 0) (ks2 := 0) (av := []) 65 11 mr_X12_127 ok_X12_here (c_X12_here mem ((s4 h1)) ((s5 h1))) rfl sh_65 ⟨_, rfl, rfl, by decide⟩ rfl rfl hd1 (Nat.le_refl 0) (Nat.le_refl 0) (Nat.le_of_ble_eq_true rfl) dX12_plainNumber_24 (mQ.elim fun v7 m9 hp => ?_)
      obtain ⟨hpv, hpm⟩ := hp
      subst hpv
      have hpm := hpm.symm
      subst hpm
      refine st_iadd dX12_plainNumber_27 ?_
      refine st_bipush rfl dX12_plainNumber_28 ?_
      refine st_isub dX12_plainNumber_30 ?_
      refine st_istore_n (i := 1) rfl (by decide) (lc' := [(2, 65), (0, (((10 * x1) + (hereM mem)) - 48)), (0, x2)]) rfl dX12_plainNumber_31 ?_
      refine st_aload_n (i := 0) rfl (t := 0) rfl (by decide) dX12_plainNumber_32 ?_
      refine st_dup (Nat.ne_of_beq_eq_false rfl) dX12_plainNumber_33 ?_
      refine so_getI (v := (mem 65 3)) 65 3 fr_X12_124_11 rfl sh_65 rfl dX12_plainNumber_34 (fun r1 => ?_)
      refine st_iconst dX12_plainNumber_37 ?_
      refine st_iadd dX12_plainNumber_38 ?_
      refine so_putI 65 3 fr_X12_124_11 pf_11_3 fo_65_3 rfl sh_65 (s6 h1 h3) dX12_plainNumber_39 ?_
      refine st_iinc (y := (x2 + 1)) (by decide) (i := 2) rfl rfl (lc' := [(2, 65), (0, (((10 * x1) + (hereM mem)) - 48)), (0, (x2 + 1))]) rfl dX12_plainNumber_42 ?_
      refine st_goto 4 (by decide) dX12_plainNumber_45 ?_
      exact st_locals [(2, 65), (0, (((10 * x1) + (hereM mem)) - 48)), (0, (x2 + 1))] ⟨Or.inr rfl, Or.inr rfl, Or.inr rfl, trivial⟩ (k1 h1 h3)
def plnM (mem : mmM) (r : Int × Int) (v : Int) (m : mmM) : Prop := (0 ≤ v ∧ v ≤ 9999) ∧ ((¬ r.1 = -1 ∧ v = r.1 ∧ m = cuM mem r.2) ∨ (r.1 = -1 ∧ m = wM mem r.2 r.2))
theorem c_X12_plainNumber (mem : mmM) (hb : bytM mem) {p : Int} (h0 : 0 ≤ p) (h1 : p ≤ mem 65 2) (hw : mem 65 4 = -1) (hd : digC (CM mem p)) : con 0 bX12_plainNumber 2 [(2, 65)] (cuM mem p) (plnM mem (numS (CM mem) 4 p)) := by
  have hn := hb.1
  have lt : ∀ z, 0 < CM mem z → z < mem 65 2 := fun z h => chT_in h
  have e4 : numS (CM mem) 4 p = numF (CM mem) 4 0 p := if_pos hd
  rw [e4]
  refine cn_X12_plainNumber (bk_X12_plainNumber_0 ?_)
  have main : ∀ (l : Nat) (v i dg : Int), 0 ≤ i → i ≤ mem 65 2 → dg + (l : Int) = 4 → 0 ≤ dg → 0 ≤ v → (v + 1) * 10 ^ l ≤ 10000 → (dg = 0 → digC (CM mem i)) → mmT bX12_plainNumber 2 0 0 (mQ 0 (plnM mem (numF (CM mem) l v i))) 4 [(2, 65), (0, v), (0, dg)] [] mS (cuM mem i) := by
    intro l
    induction l with
    | zero =>
      intro v i dg i0 i1 hdg d0 v0 hv _
      have hv' : (v + 1) * 1 ≤ 10000 := hv
      have dd := hereM_dig mem (j := i) i0
      refine bk_X12_plainNumber_4 (fun g => absurd g (by omega)) (fun _ g => ?_) (fun _ g => ?_) (fun g => absurd g (by omega)) (fun g => absurd g (by omega)) (s1 := ⟨by omega, by omega⟩) (s2 := fun _ => bytM_cu hb _) (s3 := fun _ => by rw [cuM_at]; exact i0) (s4 := fun _ => bytM_cu hb _) (s5 := fun _ => by rw [cuM_at]; exact i0) (s6 := fun g => absurd g (by omega))
      · have e : numF (CM mem) 0 v i = (v, i) := if_neg (fun z => g (dd.mpr z))
        rw [e]
        exact ⟨⟨v0, by omega⟩, Or.inl ⟨by show ¬ v = -1; omega, rfl, rfl⟩⟩
      · have e : numF (CM mem) 0 v i = (-1, i) := if_pos (dd.mp g)
        rw [e, badM_cu mem _ hw]
        exact ⟨⟨v0, by omega⟩, Or.inr ⟨rfl, rfl⟩⟩
    | succ l ih =>
      intro v i dg i0 i1 hdg d0 v0 hv hz
      have dd := hereM_dig mem (j := i) i0
      have pw : (0 : Int) < 10 ^ l := Int.pow_pos (by decide)
      have e10 : (v + 1) * (10 : Int) ^ (l + 1) = ((v + 1) * 10) * 10 ^ l := by rw [Int.pow_succ, Int.mul_assoc, Int.mul_comm ((10 : Int) ^ l)]
      rw [e10] at hv
      have hv2 : v ≤ 9999 := by
        have : ((v + 1) * 10) * 1 ≤ ((v + 1) * 10) * (10 : Int) ^ l := Int.mul_le_mul_of_nonneg_left (by omega) (by omega)
        omega
      refine bk_X12_plainNumber_4 (fun _ g => ?_) (fun g => absurd g (by omega)) (fun g => absurd g (by omega)) (fun _ g _ => ?_) (fun _ g g2 => absurd g2 g) (s1 := ⟨by omega, by omega⟩) (s2 := fun _ => bytM_cu hb _) (s3 := fun _ => by rw [cuM_at]; exact i0) (s4 := fun _ => bytM_cu hb _) (s5 := fun _ => by rw [cuM_at]; exact i0) (s6 := fun _ _ => by rw [cuM_at]; exact ⟨by omega, by omega⟩)
      · have gd := dd.mp g
        have li := lt i (by omega)
        have e : numF (CM mem) (l + 1) v i = numF (CM mem) l (v * 10 + CM mem i - 48) (i + 1) := if_pos gd
        have ev : hereM (cuM mem i) = CM mem i := hereM_val i0 (by omega)
        rw [e, ev, cuM_at, cuM_mset, show 10 * v + CM mem i - 48 = v * 10 + CM mem i - 48 by omega]
        refine ih _ _ _ (by omega) (by omega) (by omega) (by omega) (by omega) (Int.le_trans (Int.mul_le_mul_of_nonneg_right (by omega) (by omega)) hv) (fun z => by omega)
      · have e : numF (CM mem) (l + 1) v i = (v, i) := if_neg (fun z => g (dd.mpr z))
        rw [e]
        exact ⟨⟨v0, hv2⟩, Or.inl ⟨by show ¬ v = -1; omega, rfl, rfl⟩⟩
  exact main 4 0 p 0 h0 h1 (by decide) (by decide) (by decide) (by decide) (fun _ => hd)
theorem cn_X12_atom {d : Nat} {P : mmM → Prop} {mem : mmM} (h : mmT bX12_atom d 0 0 (mQv P) 0 [(2, 65), (9, 0)] [] mS mem) : conv bX12_atom d [(2, 65)] mem P := mmC_of [(2, 65), (9, 0)] ok_X12_atom.2.2.2.2 rfl (Nat.le_of_ble_eq_true rfl) h
theorem bk_X12_atom_0 {d : Nat} {d1 : Nat} {P1 : mmM → Prop} {d2 : Nat} {P2 : Int → mmM → Prop} {P : mmM → Prop} {mem : mmM}
  (c1 : ¬ (48 ≤ (hereM (lookM mem)) ∧ (hereM (lookM mem)) ≤ 57) → (letS (hereM (lookM mem))) = (-1) → (hereM (lookM mem)) = 91 → ((opensM (lookM mem)) 65 4) = (-1) → conv bX12_sum d1 [(2, 65)] (opensM (lookM mem)) P1)
  (c2 : (48 ≤ (hereM (lookM mem)) ∧ (hereM (lookM mem)) ≤ 57) → con 0 bX12_plainNumber d2 [(2, 65)] (lookM mem) P2)
  (q1 : ¬ (48 ≤ (hereM (lookM mem)) ∧ (hereM (lookM mem)) ≤ 57) → (letS (hereM (lookM mem))) = (-1) → ¬ (hereM (lookM mem)) = 91 → P (badM (lookM mem)))
  (q2 : ¬ (48 ≤ (hereM (lookM mem)) ∧ (hereM (lookM mem)) ≤ 57) → (letS (hereM (lookM mem))) = (-1) → (hereM (lookM mem)) = 91 → ¬ ((opensM (lookM mem)) 65 4) = (-1) → P (opensM (lookM mem)))
  (q3 : ¬ (48 ≤ (hereM (lookM mem)) ∧ (hereM (lookM mem)) ≤ 57) → (letS (hereM (lookM mem))) = (-1) → (hereM (lookM mem)) = 91 → ((opensM (lookM mem)) 65 4) = (-1) → ∀ (m6 : mmM), P1 m6 → P (closM m6 93))
  (q4 : ¬ (48 ≤ (hereM (lookM mem)) ∧ (hereM (lookM mem)) ≤ 57) → ¬ (letS (hereM (lookM mem))) = (-1) → P (putM (mset (lookM mem) 65 3 (((lookM mem) 65 3) + 1)) 1 (letS (hereM (lookM mem)))))
  (q5 : (48 ≤ (hereM (lookM mem)) ∧ (hereM (lookM mem)) ≤ 57) → ∀ (v5 : Int), ∀ (m10 : mmM), P2 v5 m10 → P (putM m10 0 v5))
  (hd_d1 : d1 + 1 ≤ d := by omega)
  (hd_d2 : d2 + 1 ≤ d := by omega)
  (hd1 : 1 ≤ d := by omega)
  (hd2 : 2 ≤ d := by omega)
  (hd3 : 3 ≤ d := by omega)
  (s1 : bytM mem := by intros; first | omega | assumption | solve_by_elim)
  (s2 : 0 ≤ (mem 65 3) := by intros; first | omega | assumption | solve_by_elim)
  (s3 : ¬ (48 ≤ (hereM (lookM mem)) ∧ (hereM (lookM mem)) ≤ 57) → (letS (hereM (lookM mem))) = (-1) → (hereM (lookM mem)) = 91 → opOK (lookM mem) := by intros; first | omega | assumption | solve_by_elim)
  (s4 : ¬ (48 ≤ (hereM (lookM mem)) ∧ (hereM (lookM mem)) ≤ 57) → (letS (hereM (lookM mem))) = (-1) → (hereM (lookM mem)) = 91 → ((opensM (lookM mem)) 65 4) = (-1) → ∀ (m6 : mmM), P1 m6 → clOK m6 := by intros; first | omega | assumption | solve_by_elim)
  (s5 : ¬ (48 ≤ (hereM (lookM mem)) ∧ (hereM (lookM mem)) ≤ 57) → ¬ (letS (hereM (lookM mem))) = (-1) → R32 (((lookM mem) 65 3) + 1) := by intros; first | omega | assumption | solve_by_elim)
  (s6 : ¬ (48 ≤ (hereM (lookM mem)) ∧ (hereM (lookM mem)) ≤ 57) → ¬ (letS (hereM (lookM mem))) = (-1) → putOK (mset (lookM mem) 65 3 (((lookM mem) 65 3) + 1)) := by intros; first | omega | assumption | solve_by_elim)
  (s7 : (48 ≤ (hereM (lookM mem)) ∧ (hereM (lookM mem)) ≤ 57) → ∀ (v5 : Int), ∀ (m10 : mmM), P2 v5 m10 → R32 v5 := by intros; first | omega | assumption | solve_by_elim)
  (s8 : (48 ≤ (hereM (lookM mem)) ∧ (hereM (lookM mem)) ≤ 57) → ∀ (v5 : Int), ∀ (m10 : mmM), P2 v5 m10 → putOK m10 := by intros; first | omega | assumption | solve_by_elim)
  : mmT bX12_atom d 0 0 (mQv P) 0 [(2, 65), (9, 0)] [] mS mem := by
  refine st_aload_n (i := 0) rfl (t := 0) rfl (by decide) dX12_atom_0 ?_
  refine st_callV (kc2 := 0) (ks2 := 0) (av := []) 65 11 mr_X12_143 ok_X12_look (c_X12_look mem (s1) (s2)) rfl sh_65 ⟨_, rfl, rfl, by decide⟩ rfl rfl hd2 (Nat.le_refl 0) (Nat.le_refl 0) (Nat.le_of_ble_eq_true rfl) dX12_atom_1 (mQ.elim fun v1 m1 hp => ?_)
  obtain ⟨hpv, hpm⟩ := hp
  subst hpv
  have hpm := hpm.symm
  subst hpm
  refine st_istore_n (i := 1) rfl (by decide) (lc' := [(2, 65), (0, (hereM (lookM mem)))]) rfl dX12_atom_4 ?_
  refine st_iload_n (i := 1) rfl rfl dX12_atom_5 ?_
  refine st_callS (kc2 := 0) (ks2 := 0) (av := [(0, (hereM (lookM mem)))]) mr_X12_146 ok_X12_isDigit (c_X12_isDigit (lookM mem) (hereM (lookM mem)) ((lookM_rng mem (s1) (s2)))) rfl rfl hd2 (Nat.le_refl 0) (Nat.le_refl 0) (Nat.le_of_ble_eq_true rfl) dX12_atom_6 (mQ.elim fun v2 m2 hp => ?_)
  obtain ⟨hpv, hpm⟩ := hp
  subst hpv
  have hpm := hpm.symm
  subst hpm
  refine so_ifeqB 24 (by decide) dX12_atom_9 (fun h1 => ?_) (fun h1 => ?_)
  · have h1 : ¬ (48 ≤ (hereM (lookM mem)) ∧ (hereM (lookM mem)) ≤ 57) := h1
    refine st_iload_n (i := 1) rfl rfl dX12_atom_24 ?_
    refine st_callS (kc2 := 0) (ks2 := 0) (av := [(0, (hereM (lookM mem)))]) mr_X12_157 ok_X12_letterOf (c_X12_letterOf (lookM mem) (hereM (lookM mem)) ((lookM_rng mem (s1) (s2)))) rfl rfl hd2 (Nat.le_refl 0) (Nat.le_refl 0) (Nat.le_of_ble_eq_true rfl) dX12_atom_25 (mQ.elim fun v3 m3 hp => ?_)
    obtain ⟨hpv, hpm⟩ := hp
    subst hpv
    have hpm := hpm.symm
    subst hpm
    refine st_iconst dX12_atom_28 ?_
    refine sr_icmp_eq 54 (letS_rng (hereM (lookM mem))) ⟨by decide, by decide⟩ (by decide) dX12_atom_29 (fun h2 => ?_) (fun h2 => ?_)
    · have h2 : (letS (hereM (lookM mem))) = (-1) := by omega
      refine st_iload_n (i := 1) rfl rfl dX12_atom_54 ?_
      refine st_bipush rfl dX12_atom_55 ?_
      refine sr_icmp_ne 85 (lookM_rng mem (s1) (s2)) ⟨by decide, by decide⟩ (by decide) dX12_atom_57 (fun h3 => ?_) (fun h3 => ?_)
      · have h3 : ¬ (hereM (lookM mem)) = 91 := by omega
        refine st_aload_n (i := 0) rfl (t := 0) rfl (by decide) dX12_atom_85 ?_
        refine st_callV (kc2 := 0) (ks2 := 0) (av := []) 65 11 mr_X12_140 ok_X12_bad (c_X12_bad (lookM mem) ) rfl sh_65 ⟨_, rfl, rfl, by decide⟩ rfl rfl hd1 (Nat.le_refl 0) (Nat.le_refl 0) (Nat.le_of_ble_eq_true rfl) dX12_atom_86 (mQv.elim fun m4 hp => ?_)
        have hp := hp.symm
        subst hp
        exact st_return rfl dX12_atom_89 (mQv.ret (q1 h1 h2 h3))
      · have h3 : (hereM (lookM mem)) = 91 := by omega
        refine st_aload_n (i := 0) rfl (t := 0) rfl (by decide) dX12_atom_60 ?_
        refine st_callV (kc2 := 0) (ks2 := 0) (av := []) 65 11 mr_X12_161 ok_X12_opens (c_X12_opens (lookM mem) ((s3 h1 h2 h3))) rfl sh_65 ⟨_, rfl, rfl, by decide⟩ rfl rfl hd2 (Nat.le_refl 0) (Nat.le_refl 0) (Nat.le_of_ble_eq_true rfl) dX12_atom_61 (mQv.elim fun m5 hp => ?_)
        have hp := hp.symm
        subst hp
        refine st_aload_n (i := 0) rfl (t := 0) rfl (by decide) dX12_atom_64 ?_
        refine so_getI (v := ((opensM (lookM mem)) 65 4)) 65 4 fr_X12_131_11 rfl sh_65 rfl dX12_atom_65 (fun r1 => ?_)
        refine st_iconst dX12_atom_68 ?_
        refine sr_icmp_ne 89 r1 ⟨by decide, by decide⟩ (by decide) dX12_atom_69 (fun h4 => ?_) (fun h4 => ?_)
        · have h4 : ¬ ((opensM (lookM mem)) 65 4) = (-1) := by omega
          exact st_return rfl dX12_atom_89 (mQv.ret (q2 h1 h2 h3 h4))
        · have h4 : ((opensM (lookM mem)) 65 4) = (-1) := by omega
          refine st_aload_n (i := 0) rfl (t := 0) rfl (by decide) dX12_atom_72 ?_
          refine st_callV (kc2 := 0) (ks2 := 0) (av := []) 65 11 mr_X12_164 ok_X12_sum (c1 h1 h2 h3 h4) rfl sh_65 ⟨_, rfl, rfl, by decide⟩ rfl rfl hd_d1 (Nat.le_refl 0) (Nat.le_refl 0) (Nat.le_of_ble_eq_true rfl) dX12_atom_73 (mQv.elim fun m6 p1 => ?_)
          refine st_aload_n (i := 0) rfl (t := 0) rfl (by decide) dX12_atom_76 ?_
          refine st_bipush rfl dX12_atom_77 ?_
          refine st_callV (kc2 := 0) (ks2 := 0) (av := [(0, 93)]) 65 11 mr_X12_167 ok_X12_closes (c_X12_closes m6 93 (⟨by decide, by decide⟩) ((s4 h1 h2 h3 h4 m6 p1))) rfl sh_65 ⟨_, rfl, rfl, by decide⟩ rfl rfl hd3 (Nat.le_refl 0) (Nat.le_refl 0) (Nat.le_of_ble_eq_true rfl) dX12_atom_79 (mQv.elim fun m7 hp => ?_)
          have hp := hp.symm
          subst hp
          refine st_goto 89 (by decide) dX12_atom_82 ?_
          exact st_return rfl dX12_atom_89 (mQv.ret (q3 h1 h2 h3 h4 m6 p1))
    · have h2 : ¬ (letS (hereM (lookM mem))) = (-1) := by omega
      refine st_aload_n (i := 0) rfl (t := 0) rfl (by decide) dX12_atom_32 ?_
      refine st_dup (Nat.ne_of_beq_eq_false rfl) dX12_atom_33 ?_
      refine so_getI (v := ((lookM mem) 65 3)) 65 3 fr_X12_124_11 rfl sh_65 rfl dX12_atom_34 (fun r2 => ?_)
      refine st_iconst dX12_atom_37 ?_
      refine st_iadd dX12_atom_38 ?_
      refine so_putI 65 3 fr_X12_124_11 pf_11_3 fo_65_3 rfl sh_65 (s5 h1 h2) dX12_atom_39 ?_
      refine st_aload_n (i := 0) rfl (t := 0) rfl (by decide) dX12_atom_42 ?_
      refine st_iconst dX12_atom_43 ?_
      refine st_iload_n (i := 1) rfl rfl dX12_atom_44 ?_
      refine st_callS (kc2 := 0) (ks2 := 0) (av := [(0, (hereM (lookM mem)))]) mr_X12_157 ok_X12_letterOf (c_X12_letterOf (mset (lookM mem) 65 3 (((lookM mem) 65 3) + 1)) (hereM (lookM mem)) ((lookM_rng mem (s1) (s2)))) rfl rfl hd2 (Nat.le_refl 0) (Nat.le_refl 0) (Nat.le_of_ble_eq_true rfl) dX12_atom_45 (mQ.elim fun v4 m8 hp => ?_)
      obtain ⟨hpv, hpm⟩ := hp
      subst hpv
      have hpm := hpm.symm
      subst hpm
      refine st_callV (kc2 := 0) (ks2 := 0) (av := [(0, 1), (0, (letS (hereM (lookM mem))))]) 65 11 mr_X12_153 ok_X12_put (c_X12_put (mset (lookM mem) 65 3 (((lookM mem) 65 3) + 1)) 1 (letS (hereM (lookM mem))) (⟨by decide, by decide⟩) ((letS_rng (hereM (lookM mem)))) ((s6 h1 h2))) rfl sh_65 ⟨_, rfl, rfl, by decide⟩ rfl rfl hd1 (Nat.le_refl 0) (Nat.le_refl 0) (Nat.le_of_ble_eq_true rfl) dX12_atom_48 (mQv.elim fun m9 hp => ?_)
      have hp := hp.symm
      subst hp
      refine st_goto 89 (by decide) dX12_atom_51 ?_
      exact st_return rfl dX12_atom_89 (mQv.ret (q4 h1 h2))
  · have h1 : (48 ≤ (hereM (lookM mem)) ∧ (hereM (lookM mem)) ≤ 57) := h1
    refine st_aload_n (i := 0) rfl (t := 0) rfl (by decide) dX12_atom_12 ?_
    refine st_iconst dX12_atom_13 ?_
    refine st_aload_n (i := 0) rfl (t := 0) rfl (by decide) dX12_atom_14 ?_
    refine st_callV (kc2 := 0) (ks2 := 0) (av := []) 65 11 mr_X12_150 ok_X12_plainNumber (c2 h1) rfl sh_65 ⟨_, rfl, rfl, by decide⟩ rfl rfl hd_d2 (Nat.le_refl 0) (Nat.le_refl 0) (Nat.le_of_ble_eq_true rfl) dX12_atom_15 (mQ.elim fun v5 m10 p2 => ?_)
    refine st_callV (kc2 := 0) (ks2 := 0) (av := [(0, 0), (0, v5)]) 65 11 mr_X12_153 ok_X12_put (c_X12_put m10 0 v5 (⟨by decide, by decide⟩) ((s7 h1 v5 m10 p2)) ((s8 h1 v5 m10 p2))) rfl sh_65 ⟨_, rfl, rfl, by decide⟩ rfl rfl hd1 (Nat.le_refl 0) (Nat.le_refl 0) (Nat.le_of_ble_eq_true rfl) dX12_atom_18 (mQv.elim fun m11 hp => ?_)
    have hp := hp.symm
    subst hp
    refine st_goto 89 (by decide) dX12_atom_21 ?_
    exact st_return rfl dX12_atom_89 (mQv.ret (q5 h1 v5 m10 p2))
/-- a level deeper, from place s on -/
def nestM (mem : mmM) (s : Int) (m : mmM) : Prop := m 65 4 = -1 ∧ lmFr mem m ∧ m 65 3 = s ∧ m 65 5 = mem 65 5 + 1 ∧ codM m = codM mem ∧ m 67 = mem 67 ∧ m 68 = mem 68
theorem nestM_step {mem : mmM} (hw : mem 65 4 = -1) (p : Int) : nestM mem (p + 1) (stepM (cuM mem p) 1) := by
  unfold stepM
  refine ⟨?_, lmFr_trans (lmFr_trans (lmFr_cu mem p) (lmFr_65 _ (by omega))) (lmFr_65 _ (by omega)), ?_, ?_, ?_, ?_, ?_⟩
  · rw [mset_at, if_neg (by decide), mset_at, if_neg (by decide), cuM_65 _ _ (by decide), hw]
  · rw [mset_same, cuM_at]
  · rw [mset_at, if_neg (by decide), mset_same, cuM_65 _ _ (by decide)]
  · unfold codM
    rw [mset_at, if_neg (by decide), mset_at, if_neg (by decide), cuM_65 _ _ (by decide), mset_ne (by decide), mset_ne (by decide), cuM_ne _ _ (by decide), cuM_65 _ _ (by decide)]
  · rw [mset_ne (by decide), mset_ne (by decide), cuM_ne _ _ (by decide)]
  · rw [mset_ne (by decide), mset_ne (by decide), cuM_ne _ _ (by decide)]
theorem backM1_k (m : mmM) {k : Int} (h3 : k ≠ 3) (h5 : k ≠ 5) : backM1 m 65 k = m 65 k := by
  unfold backM1
  rw [mset_at, if_neg h5, mset_at, if_neg h3]
theorem backM1_3 (m : mmM) : backM1 m 65 3 = m 65 3 + 1 := by
  unfold backM1
  rw [mset_at, if_neg (by decide), mset_same]
theorem backM1_5 (m : mmM) : backM1 m 65 5 = m 65 5 - 1 := by
  unfold backM1
  rw [mset_same]
theorem backM1_ne (m : mmM) {a : Nat} (h : a ≠ 65) : backM1 m a = m a := by
  unfold backM1
  rw [mset_ne h, mset_ne h]
theorem lmFr_back (m : mmM) : lmFr m (backM1 m) := lmFr_trans (lmFr_65 m (by omega)) (lmFr_65 _ (by omega))
theorem codM_back (m : mmM) : codM (backM1 m) = codM m := by
  unfold codM
  rw [backM1_k _ (by decide) (by decide), backM1_ne _ (by decide)]
theorem codM_look (m : mmM) : codM (lookM m) = codM m := by
  unfold codM
  rw [lookM_65 _ (by decide)]
  show cuM m _ 69 _ = _
  rw [cuM_ne _ _ (by decide)]
theorem badM_ne (m : mmM) {a : Nat} (h : a ≠ 65) : badM m a = m a := mset_ne h
theorem codM_bad (m : mmM) : codM (badM m) = codM m := by
  unfold codM
  rw [badM_65 _ (by decide), badM_ne _ (by decide)]
/-- what stands between two brackets -/
theorem clos_res {mem m1 m6 : mmM} {s c : Int} {r : PR} (hp : preM mem) (hs : mem 65 3 + 1 ≤ s) (hc : 0 < c) (h1 : nestM mem s m1) (hg : gdR (mem 65 2) s r) (h : resM m1 r m6) : resM mem (closeP (CM mem) (SM mem) c r) (closM m6 c) := by
  obtain ⟨hb, hw, p3, p14, pc, pd⟩ := hp
  have hn := hb.1
  obtain ⟨n4, nf, n3, n5, nc, n67, n68⟩ := h1
  cases r with
  | inl f =>
    obtain ⟨a1, a2, a3, a4, a5, a6⟩ := h
    have e : closM m6 c = backM1 m6 := if_neg (by omega)
    rw [lmFr_2 nf, n3, n5] at a4
    rw [n3, nc] at a5
    rw [n5] at a6
    rw [e]
    refine ⟨by rw [backM1_k _ (by decide) (by decide)]; exact a1, a2, lmFr_trans (lmFr_trans nf a3) (lmFr_back m6), ?_, ?_, ?_⟩
    · rw [backM1_3]
      omega
    · rw [codM_back, backM1_3]
      omega
    · rw [backM1_5]
      omega
  | inr x =>
    obtain ⟨q, ts⟩ := x
    have gd := hg.2 q ts rfl
    obtain ⟨a1, a2, a3, a4, a5, a6, a7⟩ := h
    have fr := lmFr_trans nf a2
    have ge := SM_ge mem q
    have le := SM_le (m := mem) (i := q) gd.2.1
    have lk : lookM m6 = cuM m6 (SM mem q) := by
      unfold lookM
      rw [lmFr_S fr, a3]
    have hi := hereM_is m6 (j := SM mem q) (c := c) (by omega) hc
    rw [lmFr_C fr, ← lk] at hi
    show resM mem (if CM mem (SM mem q) = c then .inr (SM mem q + 1, ts) else .inl (SM mem q)) (closM m6 c)
    have ec : closM m6 c = if hereM (lookM m6) = c then backM1 (lookM m6) else backM1 (badM (lookM m6)) := if_pos a1
    rw [ec]
    by_cases z : CM mem (SM mem q) = c
    · rw [if_pos z, if_pos (hi.mpr z)]
      refine ⟨?_, lmFr_trans (lmFr_trans fr (by rw [lk]; exact lmFr_cu m6 _)) (lmFr_back _), ?_, ?_, ?_, ?_, ?_⟩
      · rw [backM1_k _ (by decide) (by decide), lookM_65 _ (by decide), a1]
      · rw [backM1_3, lk, cuM_at]
      · rw [backM1_5, lookM_65 _ (by decide), a4, n5]
        omega
      · rw [codM_back, codM_look, a5, nc]
      · rw [backM1_ne _ (by decide), backM1_ne _ (by decide), lk, cuM_ne _ _ (by decide), cuM_ne _ _ (by decide)]
        rw [lmFr_14 nf, nc] at a6
        exact a6
      · intro i i1
        rw [lmFr_14 nf, nc, n67, n68] at a7
        rw [backM1_ne _ (by decide), backM1_ne _ (by decide), lk, cuM_ne _ _ (by decide), cuM_ne _ _ (by decide)]
        exact a7 i i1
    · rw [if_neg z, if_neg (fun y => z (hi.mp y))]
      have e4 : badM (lookM m6) 65 4 = SM mem q := by
        rw [lk, badM_cu m6 _ a1, wM_4]
      refine ⟨by rw [backM1_k _ (by decide) (by decide)]; exact e4, by omega, lmFr_trans (lmFr_trans (lmFr_trans fr (by rw [lk]; exact lmFr_cu m6 _)) (lmFr_bad _)) (lmFr_back _), ?_, ?_, ?_⟩
      · rw [backM1_3, badM_65 _ (by decide), lk, cuM_at]
        omega
      · rw [codM_back, codM_bad, codM_look, backM1_3, badM_65 _ (by decide), lk, cuM_at, a5, nc]
        omega
      · rw [backM1_5, badM_65 _ (by decide), lookM_65 _ (by decide), a4, n5]
        omega
theorem letS_iff (c : Int) : letS c = -1 ↔ ¬ isLet c := by
  constructor
  · intro h hl
    have := (leF_letS hl).2.1
    omega
  · intro h
    unfold isLet at h
    unfold letS
    rw [if_neg (fun z => h (by omega)), if_neg (fun z => h (by omega)), if_neg (fun z => h (by omega)), if_neg (fun z => h (by omega)), if_neg (fun z => h (by omega)), if_neg (fun z => h (by omega))]
theorem tapM_P (mem : mmM) : tapP (CM mem) (SM mem) (mem 65 2) := tapP_T _ _
theorem putOK_done {mem m : mmM} {q : Int} {ts : List tokT} (hp : preM mem) (h : doneM mem q ts m) (hl : (ts.length : Int) ≤ 170) : putOK m := by
  obtain ⟨hb, -, p3, p14, pc, -⟩ := hp
  obtain ⟨-, a2, -, -, a5, -, -⟩ := h
  have e := lmFr_14 a2
  have hn := hb.1
  have a5' : m 69 (m 65 14) = codM mem + (ts.length : Int) := a5
  exact ⟨by omega, by omega⟩
theorem putOK_fail {mem m : mmM} {f k : Int} (hp : preM mem) (h : failM mem f k m) (hk : 0 ≤ k) : putOK m := by
  obtain ⟨hb, -, p3, p14, pc, pd⟩ := hp
  obtain ⟨-, -, a3, a4, a5, -⟩ := h
  have e := lmFr_14 a3
  have hn := hb.1
  have a5' : 0 ≤ m 69 (m 65 14) ∧ m 69 (m 65 14) + k ≤ codM mem + (m 65 3 - mem 65 3) := a5
  exact ⟨by omega, by omega⟩
theorem preM_cu {mem m : mmM} {j s : Int} {ts : List tokT} (hp : preM mem) (h : doneM mem j ts m) (hs : mem 65 3 + ts.length ≤ s ∧ s ≤ mem 65 2) : preM (cuM m s) := by
  obtain ⟨hb, -, p3, p14, pc, pd⟩ := hp
  obtain ⟨a1, a2, -, a4, a5, -, -⟩ := h
  have ec : codM (cuM m s) = codM m := by
    unfold codM
    rw [cuM_65 _ _ (by decide), cuM_ne _ _ (by decide)]
  refine ⟨bytM_cu (lmFr_B a2 hb) s, by rw [cuM_65 _ _ (by decide)]; exact a1, by rw [cuM_at, cuM_65 _ _ (by decide), lmFr_2 a2]; omega, by rw [cuM_65 _ _ (by decide), lmFr_14 a2]; exact p14, by rw [ec, cuM_at, a5]; omega, by rw [cuM_65 _ _ (by decide), a4]; exact pd⟩
theorem am_Atom (r : Nat) (dS : Nat) (hd : 2 ≤ dS) (hS : ∀ r', r = r' + 1 → ∀ m, preM m → m 65 5 = 6 - (r' : Int) → conv bX12_sum dS [(2, 65)] m (resM m (sumL (CM m) (SM m) r' (m 65 3)))) (mem : mmM) (hp : preM mem) (h5 : mem 65 5 = 6 - (r : Int)) : conv bX12_atom (dS + 1) [(2, 65)] mem (resM mem (atomP (CM mem) (SM mem) (nestS (CM mem) (SM mem) r) (mem 65 3))) := by
  obtain ⟨hb, hw, p3, p14, pc, pd⟩ := id hp
  have hn := hb.1
  obtain ⟨p, hpp⟩ : ∃ p, SM mem (mem 65 3) = p := ⟨_, rfl⟩
  have ge := SM_ge mem (mem 65 3)
  have le := SM_le (m := mem) (i := mem 65 3) p3.2
  rw [hpp] at ge le
  have lk : lookM mem = cuM mem p := by
    unfold lookM
    rw [hpp]
  have lt : ∀ z, 0 < CM mem z → z < mem 65 2 := fun z h => chT_in h
  have dd := hereM_dig mem (j := p) (by omega)
  have hl : letS (hereM (cuM mem p)) = -1 ↔ ¬ isLet (CM mem p) := by
    rcases hereM_cu mem (j := p) (by omega) with q | q
    · rw [q.2]
      exact letS_iff _
    · rw [q.2.1, q.2.2]
      constructor
      · intro _
        unfold isLet
        omega
      · intro _
        decide
  have h91 := hereM_is mem (j := p) (c := 91) (by omega) (by decide)
  obtain ⟨nm, hnm⟩ : ∃ nm, numS (CM mem) 4 p = nm := ⟨_, rfl⟩
  have nb := numS_bnd (C := CM mem) (n := mem 65 2) (fun i h => lt i h) 4 p le
  have nt := num4_top (CM mem) p
  have na := numS_adv (C := CM mem) (k := 3) (j := p)
  rw [hnm] at nb nt na
  obtain ⟨R, hR⟩ : ∃ R, atomP (CM mem) (SM mem) (nestS (CM mem) (SM mem) r) (mem 65 3) = R := ⟨_, rfl⟩
  have eR : R = if isLet (CM mem p) then .inr (p + 1, [(1, letS (CM mem p))]) else if CM mem p = 91 then (match nestS (CM mem) (SM mem) r with
    | none => .inl p
    | some f => closeP (CM mem) (SM mem) 93 (f (p + 1))) else if nm.1 = -1 then .inl nm.2 else .inr (nm.2, [(0, nm.1)]) := by
    rw [← hR]
    unfold atomP
    rw [hpp, hnm]
    rfl
  rw [hR]
  have base : ∀ z, doneM mem z [] (cuM mem z) := fun z => doneM_cu (doneM_nil mem hw) z
  have cz : ∀ z, codM (cuM mem z) = codM mem := fun z => by
    unfold codM
    rw [cuM_65 _ _ (by decide), cuM_ne _ _ (by decide)]
  have w5 : ∀ z f, codM (wM mem z f) = codM mem := fun z f => by
    unfold codM
    rw [wM_65 _ _ _ (by decide) (by decide), wM_ne _ _ _ (by decide)]
  have wf : ∀ z f, lmFr mem (wM mem z f) := fun z f => lmFr_trans (lmFr_cu mem z) (lmFr_65 _ (by omega))
  have failw : ∀ z f k, 0 ≤ k → mem 65 3 + k ≤ z → z ≤ mem 65 2 → 0 ≤ f → failM mem f k (wM mem z f) := by
    intro z f k k0 z0 z1 f0
    refine ⟨wM_4 _ _ _, f0, wf z f, ?_, ?_, ?_⟩
    · rw [wM_3]
      omega
    · rw [w5, wM_3]
      omega
    · rw [wM_65 _ _ _ (by decide) (by decide)]
      omega
  have op6 : r = 0 → opensM (cuM mem p) = stepM (wM mem p p) 1 := fun z => by
    unfold opensM
    rw [cuM_65 _ _ (by decide), if_pos (by omega), badM_cu mem _ hw]
  have op : ¬ r = 0 → opensM (cuM mem p) = stepM (cuM mem p) 1 := fun z => by
    unfold opensM
    rw [cuM_65 _ _ (by decide), if_neg (by omega)]
  have op4 : opensM (cuM mem p) 65 4 = -1 → ¬ r = 0 := by
    intro g z
    rw [op6 z] at g
    unfold stepM at g
    rw [mset_at, if_neg (by decide), mset_at, if_neg (by decide), wM_4] at g
    omega
  refine cn_X12_atom (bk_X12_atom_0 (d1 := dS) (d2 := 2) (P1 := fun m => ∃ r', r = r' + 1 ∧ resM (opensM (cuM mem p)) (sumL (CM mem) (SM mem) r' (p + 1)) m) (P2 := plnM mem nm) ?_ ?_ ?_ ?_ ?_ ?_ ?_ (s1 := hb) (s2 := p3.1) (s3 := ?_) (s4 := ?_) (s5 := ?_) (s6 := ?_) (s7 := ?_) (s8 := ?_)) <;> (try rw [lk])
  · intro _ _ g g2
    have r0 := op4 g2
    have l := lt p (by have := h91.mp g; omega)
    have ns := nestM_step hw p
    rw [op r0]
    obtain ⟨n4, nf, n3, n5, nc, -, -⟩ := id ns
    have := hS (r - 1) (by omega) (stepM (cuM mem p) 1) ⟨lmFr_B nf hb, n4, by rw [n3, lmFr_2 nf]; omega, by rw [lmFr_14 nf]; exact p14, by rw [nc, n3]; omega, by rw [n5]; omega⟩ (by rw [n5, h5]; omega)
    rw [lmFr_C nf, lmFr_S nf, n3] at this
    exact conv.mono this (fun m w => ⟨r - 1, by omega, w⟩)
  · intro g
    have := c_X12_plainNumber mem hb (p := p) (by omega) le hw (dd.mp g)
    rw [hnm] at this
    exact this
  · intro g g2 g3
    have nd : ¬ digC (CM mem p) := fun z => g (dd.mpr z)
    have e : nm = (-1, p) := by
      rw [← hnm]
      exact if_neg nd
    rw [eR, if_neg (hl.mp g2), if_neg (fun z => g3 (h91.mpr z)), e, if_pos rfl, badM_cu mem _ hw]
    exact failw p p 0 (by decide) (by omega) le (by omega)
  · intro g g2 g3 g4
    have l := lt p (by have := h91.mp g3; omega)
    by_cases r0 : r = 0
    · rw [op6 r0]
      subst r0
      rw [eR, if_neg (hl.mp g2), if_pos (h91.mp g3)]
      have st : ∀ k, k ≠ 3 → k ≠ 5 → stepM (wM mem p p) 1 65 k = wM mem p p 65 k := fun k k3 k5 => by
        unfold stepM
        rw [mset_at, if_neg k3, mset_at, if_neg k5]
      have sn : ∀ a, a ≠ 65 → stepM (wM mem p p) 1 a = wM mem p p a := fun a ha => by
        unfold stepM
        rw [mset_ne ha, mset_ne ha]
      have s3 : stepM (wM mem p p) 1 65 3 = p + 1 := by
        unfold stepM
        rw [mset_same, wM_3]
      have s5 : stepM (wM mem p p) 1 65 5 = mem 65 5 + 1 := by
        unfold stepM
        rw [mset_at, if_neg (by decide), mset_same, wM_65 _ _ _ (by decide) (by decide)]
      have sc : codM (stepM (wM mem p p) 1) = codM mem := by
        show stepM (wM mem p p) 1 69 (stepM (wM mem p p) 1 65 14) = _
        rw [st 14 (by decide) (by decide), sn 69 (by decide)]
        exact w5 p p
      refine ⟨by rw [st 4 (by decide) (by decide), wM_4], by omega, lmFr_trans (wf p p) (lmFr_trans (lmFr_65 _ (by omega)) (lmFr_65 _ (by omega))), ?_, ?_, ?_⟩
      · rw [s3]
        omega
      · rw [sc, s3]
        omega
      · rw [s5]
        omega
    · exfalso
      rw [op r0] at g4
      exact g4 (nestM_step hw p).1
  · intro g g2 g3 g4 m6 w6
    have l := lt p (by have := h91.mp g3; omega)
    obtain ⟨r', e, w⟩ := w6
    subst e
    rw [op (by omega)] at w
    rw [eR, if_neg (hl.mp g2), if_pos (h91.mp g3)]
    exact clos_res hp (by omega) (by decide) (nestM_step hw p) (good_sum (tapM_P mem) r' (p + 1) (by omega) (by omega)) w
  · intro g g2
    have hlt : isLet (CM mem p) := by
      rcases isLet_dec (CM mem p) with y | y
      · exact y
      · exact absurd (hl.mpr y) g2
    have hv := hereM_val (m := mem) (j := p) (by omega) (isLet_pos hlt)
    rw [eR, if_pos hlt, cuM_at, cuM_mset, hv]
    exact doneM_put (ts := []) (base (p + 1)) (putOK_done hp (base (p + 1)) (by show ((0 : Nat) : Int) ≤ _; omega))
  · intro g v5 m10 w
    have gd := dd.mp g
    have nl : ¬ isLet (CM mem p) := by
      unfold isLet
      omega
    obtain ⟨wv, w⟩ := w
    rw [eR, if_neg nl, if_neg (by omega)]
    rcases w with ⟨w1, rfl, rfl⟩ | ⟨w1, rfl⟩
    · rw [if_neg w1]
      exact doneM_put (ts := []) (base nm.2) (putOK_done hp (base nm.2) (by show ((0 : Nat) : Int) ≤ _; omega))
    · rw [if_pos w1]
      have l := lt p (by omega)
      have hk : mem 65 3 + 1 ≤ nm.2 := by
        have e4 : numS (CM mem) 4 p = numF (CM mem) 3 (0 * 10 + CM mem p - 48) (p + 1) := (if_pos gd).trans (if_pos gd)
        have := numF_bnd (C := CM mem) (n := mem 65 2) (fun i h => lt i h) 3 (0 * 10 + CM mem p - 48) (p + 1) (by omega) (by omega)
        rw [← e4, hnm] at this
        omega
      have fl := failw nm.2 nm.2 1 (by decide) (by omega) (by omega) (by omega)
      exact failM_put fl (putOK_fail hp fl (by decide))
  · intro _ _ g
    exact ⟨by rw [cuM_65 _ _ (by decide)]; omega, by rw [cuM_at]; omega⟩
  · intro _ _ g g4 m6 w6
    have l := lt p (by have := h91.mp g; omega)
    obtain ⟨r', e, w⟩ := w6
    have r0 := op4 g4
    rw [op r0] at w
    obtain ⟨n4, nf, n3, n5, nc, -, -⟩ := nestM_step hw p
    cases hr : sumL (CM mem) (SM mem) r' (p + 1) with
    | inl f =>
      rw [hr] at w
      obtain ⟨a1, a2, a3, a4, a5, a6⟩ := w
      rw [n3, n5, lmFr_2 nf] at a4
      rw [n5] at a6
      exact ⟨fun z => by omega, by omega, by omega⟩
    | inr x =>
      obtain ⟨q, ts⟩ := x
      rw [hr] at w
      have gd := (good_sum (tapM_P mem) r' (p + 1) (by omega) (by omega)).2 q ts hr
      obtain ⟨a1, a2, a3, a4, -, -, -⟩ := w
      exact ⟨fun _ => lmFr_B a2 (lmFr_B nf hb), by omega, by omega⟩
  · intro _ _
    rw [cuM_at]
    exact ⟨by omega, by omega⟩
  · intro _ _
    rw [cuM_at, cuM_mset]
    exact putOK_done hp (base (p + 1)) (by show ((0 : Nat) : Int) ≤ _; omega)
  · intro _ v5 m10 w
    have := w.1
    exact ⟨by omega, by omega⟩
  · intro g v5 m10 w
    have gd := dd.mp g
    rcases w.2 with ⟨w1, -, rfl⟩ | ⟨w1, rfl⟩
    · exact putOK_done hp (base nm.2) (by show ((0 : Nat) : Int) ≤ _; omega)
    · have fl := failw nm.2 nm.2 0 (by decide) (by omega) (by omega) (by omega)
      exact putOK_fail hp fl (by decide)
