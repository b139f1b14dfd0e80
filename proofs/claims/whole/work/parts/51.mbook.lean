/-! the model reads a book -/
theorem CM_as (mem : mmM) : ∃ mX : mmM, CX mX = CM mem ∧ SX mX = SM mem ∧ mX 1 1 = mem 65 2 ∧ (bytM mem → bytX mX) := by
  refine ⟨mset (mrow mem 2 (mem 66)) 1 1 (mem 65 2), ?_, ?_, mset_same _ _ _ _, fun h => ?_⟩
  · show chT _ _ = chT _ _
    rw [mset_same, mset_ne (by decide), mrow_same]
  · show skT _ _ = skT _ _
    rw [mset_same, mset_ne (by decide), mrow_same]
  · unfold bytX
    rw [mset_same, mset_ne (by decide), mrow_same]
    exact h
theorem spM_bnd {mem : mmM} (hb : bytM mem) {j t a w l : Int} (h0 : 0 ≤ j) (h1 : j ≤ mem 65 2) (h : spS (CM mem) (SM mem) j = .inr (t, a, w, l)) : (j < t ∧ t ≤ mem 65 2) ∧ (0 ≤ a ∧ a < 8) ∧ (0 ≤ w ∧ w < 26) ∧ (1 ≤ l ∧ l ≤ 99) := by
  obtain ⟨mX, e1, e2, e3, e4⟩ := CM_as mem
  rw [← e1, ← e2] at h
  rw [← e3] at h1 ⊢
  exact spS_bnd (e4 hb) h0 h1 h
theorem cutM_bnd {mem : mmM} {cnt lo left j t a b : Int} (h1 : j ≤ mem 65 2) (h : cutS (CM mem) (SM mem) cnt lo left j = .inr (t, a, b)) : (j < t ∧ t ≤ mem 65 2) ∧ (lo < a ∧ a ≤ b ∧ b < cnt) ∧ 2 ≤ left - (b - a + 1) := by
  obtain ⟨mX, e1, e2, e3, -⟩ := CM_as mem
  rw [← e1, ← e2] at h
  rw [← e3] at h1 ⊢
  exact cutS_bnd h1 h
theorem mFr_2 {mem m : mmM} (h : mFr mem m) : m 65 2 = mem 65 2 := h.2 2 (by decide) (by decide) (by decide) (by decide)
theorem mFr_66 {mem m : mmM} (h : mFr mem m) : m 66 = mem 66 := h.1 66 (by decide) (by decide) (by decide) (by decide)
theorem mFr_C {mem m : mmM} (h : mFr mem m) : CM m = CM mem := by
  unfold CM
  rw [mFr_2 h, mFr_66 h]
theorem mFr_S {mem m : mmM} (h : mFr mem m) : SM m = SM mem := by
  unfold SM
  rw [mFr_2 h, mFr_66 h]
theorem mFr_B {mem m : mmM} (h : mFr mem m) (hb : bytM mem) : bytM m := by
  unfold bytM
  rw [mFr_2 h, mFr_66 h]
  exact hb
theorem cuM_id (m : mmM) : cuM m (m 65 3) = m := mset_id m 65 3
def posM (m : mmM) : Prop := ∀ i, 0 ≤ i → i < m 65 2 → 1 ≤ m 66 i
theorem mFr_P {mem m : mmM} (h : mFr mem m) (hp : posM mem) : posM m := by
  unfold posM
  rw [mFr_2 h, mFr_66 h]
  exact hp
theorem hereM_end {m : mmM} (hp : posM m) {j : Int} (h0 : 0 ≤ j) : hereM (cuM m j) = -1 ↔ CM m j = 0 := by
  rcases hereM_cu m h0 with q | q
  · rw [q.2]
    have : CM m j = m 66 j := if_pos ⟨h0, q.1⟩
    have := hp j h0 q.1
    constructor <;> (intro z; omega)
  · rw [q.2.1, q.2.2]
    constructor <;> (intro _; rfl)
theorem cn_X12_atEnd {d : Nat} {P : Int → mmM → Prop} {mem : mmM} (h : mmT bX12_atEnd d 0 0 (mQ 0 P) 0 [(2, 65)] [] mS mem) : con 0 bX12_atEnd d [(2, 65)] mem P := mmC_of [(2, 65)] ok_X12_atEnd.2.2.2.2 rfl (Nat.le_of_ble_eq_true rfl) h
theorem bk_X12_atEnd_0 {d : Nat} {P : Int → mmM → Prop} {mem : mmM}
  (q1 : ¬ (mem 65 4) = (-1) → P (mem 65 4) mem)
  (q2 : (mem 65 4) = (-1) → (hereM (lookM mem)) = (-1) → P ((lookM mem) 65 4) (lookM mem))
  (q3 : (mem 65 4) = (-1) → ¬ (hereM (lookM mem)) = (-1) → P ((badM (lookM mem)) 65 4) (badM (lookM mem)))
  (hd1 : 1 ≤ d := by omega)
  (hd2 : 2 ≤ d := by omega)
  (s1 : (mem 65 4) = (-1) → bytM mem := by intros; first | omega | assumption | solve_by_elim)
  (s2 : (mem 65 4) = (-1) → 0 ≤ (mem 65 3) := by intros; first | omega | assumption | solve_by_elim)
  : mmT bX12_atEnd d 0 0 (mQ 0 P) 0 [(2, 65)] [] mS mem := by
  refine st_aload_n (i := 0) rfl (t := 0) rfl (by decide) dX12_atEnd_0 ?_
  refine so_getI (v := (mem 65 4)) 65 4 fr_X12_131_11 rfl sh_65 rfl dX12_atEnd_1 (fun r1 => ?_)
  refine st_iconst dX12_atEnd_4 ?_
  refine sr_icmp_ne 20 r1 ⟨by decide, by decide⟩ (by decide) dX12_atEnd_5 (fun h1 => ?_) (fun h1 => ?_)
  · have h1 : ¬ (mem 65 4) = (-1) := by omega
    refine st_aload_n (i := 0) rfl (t := 0) rfl (by decide) dX12_atEnd_20 ?_
    refine so_getI (v := (mem 65 4)) 65 4 fr_X12_131_11 rfl sh_65 rfl dX12_atEnd_21 (fun r2 => ?_)
    exact st_ireturn rfl dX12_atEnd_24 (mQ.ret (q1 h1))
  · have h1 : (mem 65 4) = (-1) := by omega
    refine st_aload_n (i := 0) rfl (t := 0) rfl (by decide) dX12_atEnd_8 ?_
    refine st_callV (kc2 := 0) (ks2 := 0) (av := []) 65 11 mr_X12_143 ok_X12_look (c_X12_look mem ((s1 h1)) ((s2 h1))) rfl sh_65 ⟨_, rfl, rfl, by decide⟩ rfl rfl hd2 (Nat.le_refl 0) (Nat.le_refl 0) (Nat.le_of_ble_eq_true rfl) dX12_atEnd_9 (mQ.elim fun v1 m1 hp => ?_)
    obtain ⟨hpv, hpm⟩ := hp
    subst hpv
    have hpm := hpm.symm
    subst hpm
    refine st_iconst dX12_atEnd_12 ?_
    refine sr_icmp_eq 20 (lookM_rng mem ((s1 h1)) ((s2 h1))) ⟨by decide, by decide⟩ (by decide) dX12_atEnd_13 (fun h2 => ?_) (fun h2 => ?_)
    · have h2 : (hereM (lookM mem)) = (-1) := by omega
      refine st_aload_n (i := 0) rfl (t := 0) rfl (by decide) dX12_atEnd_20 ?_
      refine so_getI (v := ((lookM mem) 65 4)) 65 4 fr_X12_131_11 rfl sh_65 rfl dX12_atEnd_21 (fun r3 => ?_)
      exact st_ireturn rfl dX12_atEnd_24 (mQ.ret (q2 h1 h2))
    · have h2 : ¬ (hereM (lookM mem)) = (-1) := by omega
      refine st_aload_n (i := 0) rfl (t := 0) rfl (by decide) dX12_atEnd_16 ?_
      refine st_callV (kc2 := 0) (ks2 := 0) (av := []) 65 11 mr_X12_140 ok_X12_bad (c_X12_bad (lookM mem) ) rfl sh_65 ⟨_, rfl, rfl, by decide⟩ rfl rfl hd1 (Nat.le_refl 0) (Nat.le_refl 0) (Nat.le_of_ble_eq_true rfl) dX12_atEnd_17 (mQv.elim fun m2 hp => ?_)
      have hp := hp.symm
      subst hp
      refine st_aload_n (i := 0) rfl (t := 0) rfl (by decide) dX12_atEnd_20 ?_
      refine so_getI (v := ((badM (lookM mem)) 65 4)) 65 4 fr_X12_131_11 rfl sh_65 rfl dX12_atEnd_21 (fun r4 => ?_)
      exact st_ireturn rfl dX12_atEnd_24 (mQ.ret (q3 h1 h2))
/-- at a text's end: something was wrong, or something stands there still, or not -/
theorem c_X12_atEnd (mem : mmM) (hb : bytM mem) (hp : posM mem) (h0 : 0 ≤ mem 65 3) : con 0 bX12_atEnd 2 [(2, 65)] mem (fun v m => (¬ mem 65 4 = -1 ∧ v = mem 65 4 ∧ m = mem) ∨ (mem 65 4 = -1 ∧ CM mem (SM mem (mem 65 3)) = 0 ∧ v = -1 ∧ m = lookM mem) ∨ (mem 65 4 = -1 ∧ ¬ CM mem (SM mem (mem 65 3)) = 0 ∧ v = SM mem (mem 65 3) ∧ m = wM mem (SM mem (mem 65 3)) (SM mem (mem 65 3)))) := by
  have ge := SM_ge mem (mem 65 3)
  have he := hereM_end hp (j := SM mem (mem 65 3)) (by omega)
  refine cn_X12_atEnd (bk_X12_atEnd_0 (fun g => Or.inl ⟨g, rfl, rfl⟩) (fun g g2 => Or.inr (Or.inl ⟨g, he.mp g2, ?_, rfl⟩)) (fun g g2 => Or.inr (Or.inr ⟨g, fun z => g2 (he.mpr z), ?_, ?_⟩)) (s1 := fun _ => hb) (s2 := fun _ => h0))
  · show cuM mem _ 65 4 = -1
    rw [cuM_65 _ _ (by decide), g]
  · show badM (cuM mem _) 65 4 = _
    rw [badM_cu mem _ g, wM_4]
  · show badM (cuM mem _) = _
    rw [badM_cu mem _ g]
theorem cn_X12_readBook {d : Nat} {P : Int → mmM → Prop} {mem : mmM} (h : mmT bX12_readBook d 0 0 (mQ 0 P) 0 [(2, 65), (9, 0)] [] mS mem) : con 0 bX12_readBook d [(2, 65)] mem P := mmC_of [(2, 65), (9, 0)] ok_X12_readBook.2.2.2.2 rfl (Nat.le_of_ble_eq_true rfl) h
theorem bk_X12_readBook_0 {d : Nat} {P : Int → mmM → Prop} {mem : mmM}
  (k1 : mmT bX12_readBook d 0 0 (mQ 0 P) 22 [(2, 65), (0, 1)] [] mS (mset (mset (mset (mset mem 65 3 0) 65 4 (-1)) 65 20 0) 65 21 0))
  : mmT bX12_readBook d 0 0 (mQ 0 P) 0 [(2, 65), (9, 0)] [] mS mem := by
  refine st_aload_n (i := 0) rfl (t := 0) rfl (by decide) dX12_readBook_0 ?_
  refine st_iconst dX12_readBook_1 ?_
  refine so_putI 65 3 fr_X12_124_11 pf_11_3 fo_65_3 rfl sh_65 ⟨by decide, by decide⟩ dX12_readBook_2 ?_
  refine st_aload_n (i := 0) rfl (t := 0) rfl (by decide) dX12_readBook_5 ?_
  refine st_iconst dX12_readBook_6 ?_
  refine so_putI 65 4 fr_X12_131_11 pf_11_4 fo_65_4 rfl sh_65 ⟨by decide, by decide⟩ dX12_readBook_7 ?_
  refine st_aload_n (i := 0) rfl (t := 0) rfl (by decide) dX12_readBook_10 ?_
  refine st_iconst dX12_readBook_11 ?_
  refine so_putI 65 20 fr_X12_239_11 pf_11_20 fo_65_20 rfl sh_65 ⟨by decide, by decide⟩ dX12_readBook_12 ?_
  refine st_aload_n (i := 0) rfl (t := 0) rfl (by decide) dX12_readBook_15 ?_
  refine st_iconst dX12_readBook_16 ?_
  refine so_putI 65 21 fr_X12_242_11 pf_11_21 fo_65_21 rfl sh_65 ⟨by decide, by decide⟩ dX12_readBook_17 ?_
  refine st_iconst dX12_readBook_20 ?_
  refine st_istore_n (i := 1) rfl (by decide) (lc' := [(2, 65), (0, 1)]) rfl dX12_readBook_21 ?_
  exact st_locals [(2, 65), (0, 1)] ⟨Or.inr rfl, Or.inr rfl, trivial⟩ k1
theorem bk_X12_readBook_22 {d : Nat} {d1 : Nat} {P1 : mmM → Prop} {P : Int → mmM → Prop} {mem : mmM} {x1 : Int}
  (c1 : ¬ x1 = 0 → (mem 65 4) = (-1) → conv bX12_speechText d1 [(2, 65)] mem P1)
  (k1 : x1 = 0 → mmT bX12_readBook d 0 0 (mQ 0 P) 91 [(2, 65), (9, 0)] [] mS mem)
  (k2 : ¬ x1 = 0 → ¬ (mem 65 4) = (-1) → mmT bX12_readBook d 0 0 (mQ 0 P) 91 [(2, 65), (9, 0)] [] mS mem)
  (k3 : ¬ x1 = 0 → (mem 65 4) = (-1) → ∀ (m1 : mmM), P1 m1 → ¬ (m1 65 4) = (-1) → mmT bX12_readBook d 0 0 (mQ 0 P) 22 [(2, 65), (0, 0)] [] mS (mset m1 65 3 ((m1 65 3) + 0)))
  (k4 : ¬ x1 = 0 → (mem 65 4) = (-1) → ∀ (m1 : mmM), P1 m1 → (m1 65 4) = (-1) → ¬ (hereM (lookM m1)) = 44 → mmT bX12_readBook d 0 0 (mQ 0 P) 22 [(2, 65), (0, 0)] [] mS (mset (lookM m1) 65 3 (((lookM m1) 65 3) + 0)))
  (k5 : ¬ x1 = 0 → (mem 65 4) = (-1) → ∀ (m1 : mmM), P1 m1 → (m1 65 4) = (-1) → (hereM (lookM m1)) = 44 → 24 ≤ ((lookM m1) 65 20) → mmT bX12_readBook d 0 0 (mQ 0 P) 22 [(2, 65), (0, 0)] [] mS (mset (lookM m1) 65 3 (((lookM m1) 65 3) + 0)))
  (k6 : ¬ x1 = 0 → (mem 65 4) = (-1) → ∀ (m1 : mmM), P1 m1 → (m1 65 4) = (-1) → (hereM (lookM m1)) = 44 → ((lookM m1) 65 20) < 24 → mmT bX12_readBook d 0 0 (mQ 0 P) 22 [(2, 65), (0, 1)] [] mS (mset (lookM m1) 65 3 (((lookM m1) 65 3) + 1)))
  (hd_d1 : d1 + 1 ≤ d := by omega)
  (hd2 : 2 ≤ d := by omega)
  (s1 : R32 x1 := by intros; first | omega | assumption | solve_by_elim)
  (s2 : ¬ x1 = 0 → (mem 65 4) = (-1) → ∀ (m1 : mmM), P1 m1 → ¬ (m1 65 4) = (-1) → R32 ((m1 65 3) + 0) := by intros; first | omega | assumption | solve_by_elim)
  (s3 : ¬ x1 = 0 → (mem 65 4) = (-1) → ∀ (m1 : mmM), P1 m1 → (m1 65 4) = (-1) → bytM m1 := by intros; first | omega | assumption | solve_by_elim)
  (s4 : ¬ x1 = 0 → (mem 65 4) = (-1) → ∀ (m1 : mmM), P1 m1 → (m1 65 4) = (-1) → 0 ≤ (m1 65 3) := by intros; first | omega | assumption | solve_by_elim)
  (s5 : ¬ x1 = 0 → (mem 65 4) = (-1) → ∀ (m1 : mmM), P1 m1 → (m1 65 4) = (-1) → ¬ (hereM (lookM m1)) = 44 → R32 (((lookM m1) 65 3) + 0) := by intros; first | omega | assumption | solve_by_elim)
  (s6 : ¬ x1 = 0 → (mem 65 4) = (-1) → ∀ (m1 : mmM), P1 m1 → (m1 65 4) = (-1) → (hereM (lookM m1)) = 44 → 24 ≤ ((lookM m1) 65 20) → R32 (((lookM m1) 65 3) + 0) := by intros; first | omega | assumption | solve_by_elim)
  (s7 : ¬ x1 = 0 → (mem 65 4) = (-1) → ∀ (m1 : mmM), P1 m1 → (m1 65 4) = (-1) → (hereM (lookM m1)) = 44 → ((lookM m1) 65 20) < 24 → R32 (((lookM m1) 65 3) + 1) := by intros; first | omega | assumption | solve_by_elim)
  : mmT bX12_readBook d 0 0 (mQ 0 P) 22 [(2, 65), (0, x1)] [] mS mem := by
  refine st_iload_n (i := 1) rfl rfl dX12_readBook_22 ?_
  refine sr_if_eq 91 s1 (by decide) dX12_readBook_23 (fun h1 => ?_) (fun h1 => ?_)
  · have h1 : x1 = 0 := by omega
    exact st_locals [(2, 65), (9, 0)] ⟨Or.inr rfl, Or.inl rfl, trivial⟩ (k1 h1)
  · have h1 : ¬ x1 = 0 := by omega
    refine st_aload_n (i := 0) rfl (t := 0) rfl (by decide) dX12_readBook_26 ?_
    refine so_getI (v := (mem 65 4)) 65 4 fr_X12_131_11 rfl sh_65 rfl dX12_readBook_27 (fun r1 => ?_)
    refine st_iconst dX12_readBook_30 ?_
    refine sr_icmp_ne 91 r1 ⟨by decide, by decide⟩ (by decide) dX12_readBook_31 (fun h2 => ?_) (fun h2 => ?_)
    · have h2 : ¬ (mem 65 4) = (-1) := by omega
      exact st_locals [(2, 65), (9, 0)] ⟨Or.inr rfl, Or.inl rfl, trivial⟩ (k2 h1 h2)
    · have h2 : (mem 65 4) = (-1) := by omega
      refine st_aload_n (i := 0) rfl (t := 0) rfl (by decide) dX12_readBook_34 ?_
      refine st_callV (kc2 := 0) (ks2 := 0) (av := []) 65 11 mr_X12_250 ok_X12_speechText (c1 h1 h2) rfl sh_65 ⟨_, rfl, rfl, by decide⟩ rfl rfl hd_d1 (Nat.le_refl 0) (Nat.le_refl 0) (Nat.le_of_ble_eq_true rfl) dX12_readBook_35 (mQv.elim fun m1 p1 => ?_)
      refine st_aload_n (i := 0) rfl (t := 0) rfl (by decide) dX12_readBook_38 ?_
      refine so_getI (v := (m1 65 4)) 65 4 fr_X12_131_11 rfl sh_65 rfl dX12_readBook_39 (fun r2 => ?_)
      refine st_iconst dX12_readBook_42 ?_
      refine sr_icmp_ne 68 r2 ⟨by decide, by decide⟩ (by decide) dX12_readBook_43 (fun h3 => ?_) (fun h3 => ?_)
      · have h3 : ¬ (m1 65 4) = (-1) := by omega
        refine st_iconst dX12_readBook_68 ?_
        refine st_istore_n (i := 1) rfl (by decide) (lc' := [(2, 65), (0, 0)]) rfl dX12_readBook_69 ?_
        refine st_aload_n (i := 0) rfl (t := 0) rfl (by decide) dX12_readBook_70 ?_
        refine st_dup (Nat.ne_of_beq_eq_false rfl) dX12_readBook_71 ?_
        refine so_getI (v := (m1 65 3)) 65 3 fr_X12_124_11 rfl sh_65 rfl dX12_readBook_72 (fun r3 => ?_)
        refine st_iload_n (i := 1) rfl rfl dX12_readBook_75 ?_
        refine sr_if_eq 83 ⟨by decide, by decide⟩ (by decide) dX12_readBook_76 (fun h => ?_) (fun h => ?_)
        rotate_left
        · exact absurd h (by decide)
        refine st_iconst dX12_readBook_83 ?_
        refine st_iadd dX12_readBook_84 ?_
        refine so_putI 65 3 fr_X12_124_11 pf_11_3 fo_65_3 rfl sh_65 (s2 h1 h2 m1 p1 h3) dX12_readBook_85 ?_
        refine st_goto 22 (by decide) dX12_readBook_88 ?_
        exact st_locals [(2, 65), (0, 0)] ⟨Or.inr rfl, Or.inr rfl, trivial⟩ (k3 h1 h2 m1 p1 h3)
      · have h3 : (m1 65 4) = (-1) := by omega
        refine st_aload_n (i := 0) rfl (t := 0) rfl (by decide) dX12_readBook_46 ?_
        refine st_callV (kc2 := 0) (ks2 := 0) (av := []) 65 11 mr_X12_143 ok_X12_look (c_X12_look m1 ((s3 h1 h2 m1 p1 h3)) ((s4 h1 h2 m1 p1 h3))) rfl sh_65 ⟨_, rfl, rfl, by decide⟩ rfl rfl hd2 (Nat.le_refl 0) (Nat.le_refl 0) (Nat.le_of_ble_eq_true rfl) dX12_readBook_47 (mQ.elim fun v1 m2 hp => ?_)
        obtain ⟨hpv, hpm⟩ := hp
        subst hpv
        have hpm := hpm.symm
        subst hpm
        refine st_bipush rfl dX12_readBook_50 ?_
        refine sr_icmp_ne 68 (lookM_rng m1 ((s3 h1 h2 m1 p1 h3)) ((s4 h1 h2 m1 p1 h3))) ⟨by decide, by decide⟩ (by decide) dX12_readBook_52 (fun h4 => ?_) (fun h4 => ?_)
        · have h4 : ¬ (hereM (lookM m1)) = 44 := by omega
          refine st_iconst dX12_readBook_68 ?_
          refine st_istore_n (i := 1) rfl (by decide) (lc' := [(2, 65), (0, 0)]) rfl dX12_readBook_69 ?_
          refine st_aload_n (i := 0) rfl (t := 0) rfl (by decide) dX12_readBook_70 ?_
          refine st_dup (Nat.ne_of_beq_eq_false rfl) dX12_readBook_71 ?_
          refine so_getI (v := ((lookM m1) 65 3)) 65 3 fr_X12_124_11 rfl sh_65 rfl dX12_readBook_72 (fun r4 => ?_)
          refine st_iload_n (i := 1) rfl rfl dX12_readBook_75 ?_
          refine sr_if_eq 83 ⟨by decide, by decide⟩ (by decide) dX12_readBook_76 (fun h => ?_) (fun h => ?_)
          rotate_left
          · exact absurd h (by decide)
          refine st_iconst dX12_readBook_83 ?_
          refine st_iadd dX12_readBook_84 ?_
          refine so_putI 65 3 fr_X12_124_11 pf_11_3 fo_65_3 rfl sh_65 (s5 h1 h2 m1 p1 h3 h4) dX12_readBook_85 ?_
          refine st_goto 22 (by decide) dX12_readBook_88 ?_
          exact st_locals [(2, 65), (0, 0)] ⟨Or.inr rfl, Or.inr rfl, trivial⟩ (k4 h1 h2 m1 p1 h3 h4)
        · have h4 : (hereM (lookM m1)) = 44 := by omega
          refine st_aload_n (i := 0) rfl (t := 0) rfl (by decide) dX12_readBook_55 ?_
          refine so_getI (v := ((lookM m1) 65 20)) 65 20 fr_X12_239_11 rfl sh_65 rfl dX12_readBook_56 (fun r5 => ?_)
          refine st_bipush rfl dX12_readBook_59 ?_
          refine sr_icmp_ge 68 r5 ⟨by decide, by decide⟩ (by decide) dX12_readBook_61 (fun h5 => ?_) (fun h5 => ?_)
          · have h5 : 24 ≤ ((lookM m1) 65 20) := by omega
            refine st_iconst dX12_readBook_68 ?_
            refine st_istore_n (i := 1) rfl (by decide) (lc' := [(2, 65), (0, 0)]) rfl dX12_readBook_69 ?_
            refine st_aload_n (i := 0) rfl (t := 0) rfl (by decide) dX12_readBook_70 ?_
            refine st_dup (Nat.ne_of_beq_eq_false rfl) dX12_readBook_71 ?_
            refine so_getI (v := ((lookM m1) 65 3)) 65 3 fr_X12_124_11 rfl sh_65 rfl dX12_readBook_72 (fun r6 => ?_)
            refine st_iload_n (i := 1) rfl rfl dX12_readBook_75 ?_
            refine sr_if_eq 83 ⟨by decide, by decide⟩ (by decide) dX12_readBook_76 (fun h => ?_) (fun h => ?_)
            rotate_left
            · exact absurd h (by decide)
            refine st_iconst dX12_readBook_83 ?_
            refine st_iadd dX12_readBook_84 ?_
            refine so_putI 65 3 fr_X12_124_11 pf_11_3 fo_65_3 rfl sh_65 (s6 h1 h2 m1 p1 h3 h4 h5) dX12_readBook_85 ?_
            refine st_goto 22 (by decide) dX12_readBook_88 ?_
            exact st_locals [(2, 65), (0, 0)] ⟨Or.inr rfl, Or.inr rfl, trivial⟩ (k5 h1 h2 m1 p1 h3 h4 h5)
          · have h5 : ((lookM m1) 65 20) < 24 := by omega
            refine st_iconst dX12_readBook_64 ?_
            refine st_goto 69 (by decide) dX12_readBook_65 ?_
            refine st_istore_n (i := 1) rfl (by decide) (lc' := [(2, 65), (0, 1)]) rfl dX12_readBook_69 ?_
            refine st_aload_n (i := 0) rfl (t := 0) rfl (by decide) dX12_readBook_70 ?_
            refine st_dup (Nat.ne_of_beq_eq_false rfl) dX12_readBook_71 ?_
            refine so_getI (v := ((lookM m1) 65 3)) 65 3 fr_X12_124_11 rfl sh_65 rfl dX12_readBook_72 (fun r7 => ?_)
            refine st_iload_n (i := 1) rfl rfl dX12_readBook_75 ?_
            refine sr_if_eq 83 ⟨by decide, by decide⟩ (by decide) dX12_readBook_76 (fun h => ?_) (fun h => ?_)
            · exact absurd h (by decide)
            refine st_iconst dX12_readBook_79 ?_
            refine st_goto 84 (by decide) dX12_readBook_80 ?_
            refine st_iadd dX12_readBook_84 ?_
            refine so_putI 65 3 fr_X12_124_11 pf_11_3 fo_65_3 rfl sh_65 (s7 h1 h2 m1 p1 h3 h4 h5) dX12_readBook_85 ?_
            refine st_goto 22 (by decide) dX12_readBook_88 ?_
            exact st_locals [(2, 65), (0, 1)] ⟨Or.inr rfl, Or.inr rfl, trivial⟩ (k6 h1 h2 m1 p1 h3 h4 h5)
theorem bk_X12_readBook_91 {d : Nat} {P : Int → mmM → Prop} {mem : mmM}
  (k1 : ¬ (mem 65 4) = (-1) → mmT bX12_readBook d 0 0 (mQ 0 P) 111 [(2, 65), (9, 0)] [] mS mem)
  (k2 : (mem 65 4) = (-1) → 2 ≤ (mem 65 20) → mmT bX12_readBook d 0 0 (mQ 0 P) 111 [(2, 65), (9, 0)] [] mS mem)
  (k3 : (mem 65 4) = (-1) → (mem 65 20) < 2 → mmT bX12_readBook d 0 0 (mQ 0 P) 111 [(2, 65), (9, 0)] [] mS (badM mem))
  (hd1 : 1 ≤ d := by omega)
  : mmT bX12_readBook d 0 0 (mQ 0 P) 91 [(2, 65), (9, 0)] [] mS mem := by
  refine st_aload_n (i := 0) rfl (t := 0) rfl (by decide) dX12_readBook_91 ?_
  refine so_getI (v := (mem 65 4)) 65 4 fr_X12_131_11 rfl sh_65 rfl dX12_readBook_92 (fun r1 => ?_)
  refine st_iconst dX12_readBook_95 ?_
  refine sr_icmp_ne 111 r1 ⟨by decide, by decide⟩ (by decide) dX12_readBook_96 (fun h1 => ?_) (fun h1 => ?_)
  · have h1 : ¬ (mem 65 4) = (-1) := by omega
    exact st_locals [(2, 65), (9, 0)] ⟨Or.inr rfl, Or.inl rfl, trivial⟩ (k1 h1)
  · have h1 : (mem 65 4) = (-1) := by omega
    refine st_aload_n (i := 0) rfl (t := 0) rfl (by decide) dX12_readBook_99 ?_
    refine so_getI (v := (mem 65 20)) 65 20 fr_X12_239_11 rfl sh_65 rfl dX12_readBook_100 (fun r2 => ?_)
    refine st_iconst dX12_readBook_103 ?_
    refine sr_icmp_ge 111 r2 ⟨by decide, by decide⟩ (by decide) dX12_readBook_104 (fun h2 => ?_) (fun h2 => ?_)
    · have h2 : 2 ≤ (mem 65 20) := by omega
      exact st_locals [(2, 65), (9, 0)] ⟨Or.inr rfl, Or.inl rfl, trivial⟩ (k2 h1 h2)
    · have h2 : (mem 65 20) < 2 := by omega
      refine st_aload_n (i := 0) rfl (t := 0) rfl (by decide) dX12_readBook_107 ?_
      refine st_callV (kc2 := 0) (ks2 := 0) (av := []) 65 11 mr_X12_140 ok_X12_bad (c_X12_bad mem ) rfl sh_65 ⟨_, rfl, rfl, by decide⟩ rfl rfl hd1 (Nat.le_refl 0) (Nat.le_refl 0) (Nat.le_of_ble_eq_true rfl) dX12_readBook_108 (mQv.elim fun m1 hp => ?_)
      have hp := hp.symm
      subst hp
      exact st_locals [(2, 65), (9, 0)] ⟨Or.inr rfl, Or.inl rfl, trivial⟩ (k3 h1 h2)
theorem bk_X12_readBook_111 {d : Nat} {P : Int → mmM → Prop} {mem : mmM}
  (k1 : ¬ (mem 65 4) = (-1) → mmT bX12_readBook d 0 0 (mQ 0 P) 221 [(2, 65), (9, 0)] [] mS mem)
  (k2 : (mem 65 4) = (-1) → ¬ (hereM (lookM mem)) = 59 → mmT bX12_readBook d 0 0 (mQ 0 P) 221 [(2, 65), (9, 0)] [] mS (lookM mem))
  (k3 : (mem 65 4) = (-1) → (hereM (lookM mem)) = 59 → mmT bX12_readBook d 0 0 (mQ 0 P) 140 [(2, 65), (0, 1)] [] mS (mset (lookM mem) 65 3 (((lookM mem) 65 3) + 1)))
  (hd2 : 2 ≤ d := by omega)
  (s1 : (mem 65 4) = (-1) → bytM mem := by intros; first | omega | assumption | solve_by_elim)
  (s2 : (mem 65 4) = (-1) → 0 ≤ (mem 65 3) := by intros; first | omega | assumption | solve_by_elim)
  (s3 : (mem 65 4) = (-1) → (hereM (lookM mem)) = 59 → R32 (((lookM mem) 65 3) + 1) := by intros; first | omega | assumption | solve_by_elim)
  : mmT bX12_readBook d 0 0 (mQ 0 P) 111 [(2, 65), (9, 0)] [] mS mem := by
  refine st_aload_n (i := 0) rfl (t := 0) rfl (by decide) dX12_readBook_111 ?_
  refine so_getI (v := (mem 65 4)) 65 4 fr_X12_131_11 rfl sh_65 rfl dX12_readBook_112 (fun r1 => ?_)
  refine st_iconst dX12_readBook_115 ?_
  refine sr_icmp_ne 221 r1 ⟨by decide, by decide⟩ (by decide) dX12_readBook_116 (fun h1 => ?_) (fun h1 => ?_)
  · have h1 : ¬ (mem 65 4) = (-1) := by omega
    exact st_locals [(2, 65), (9, 0)] ⟨Or.inr rfl, Or.inl rfl, trivial⟩ (k1 h1)
  · have h1 : (mem 65 4) = (-1) := by omega
    refine st_aload_n (i := 0) rfl (t := 0) rfl (by decide) dX12_readBook_119 ?_
    refine st_callV (kc2 := 0) (ks2 := 0) (av := []) 65 11 mr_X12_143 ok_X12_look (c_X12_look mem ((s1 h1)) ((s2 h1))) rfl sh_65 ⟨_, rfl, rfl, by decide⟩ rfl rfl hd2 (Nat.le_refl 0) (Nat.le_refl 0) (Nat.le_of_ble_eq_true rfl) dX12_readBook_120 (mQ.elim fun v1 m1 hp => ?_)
    obtain ⟨hpv, hpm⟩ := hp
    subst hpv
    have hpm := hpm.symm
    subst hpm
    refine st_bipush rfl dX12_readBook_123 ?_
    refine sr_icmp_ne 221 (lookM_rng mem ((s1 h1)) ((s2 h1))) ⟨by decide, by decide⟩ (by decide) dX12_readBook_125 (fun h2 => ?_) (fun h2 => ?_)
    · have h2 : ¬ (hereM (lookM mem)) = 59 := by omega
      exact st_locals [(2, 65), (9, 0)] ⟨Or.inr rfl, Or.inl rfl, trivial⟩ (k2 h1 h2)
    · have h2 : (hereM (lookM mem)) = 59 := by omega
      refine st_aload_n (i := 0) rfl (t := 0) rfl (by decide) dX12_readBook_128 ?_
      refine st_dup (Nat.ne_of_beq_eq_false rfl) dX12_readBook_129 ?_
      refine so_getI (v := ((lookM mem) 65 3)) 65 3 fr_X12_124_11 rfl sh_65 rfl dX12_readBook_130 (fun r2 => ?_)
      refine st_iconst dX12_readBook_133 ?_
      refine st_iadd dX12_readBook_134 ?_
      refine so_putI 65 3 fr_X12_124_11 pf_11_3 fo_65_3 rfl sh_65 (s3 h1 h2) dX12_readBook_135 ?_
      refine st_iconst dX12_readBook_138 ?_
      refine st_istore_n (i := 1) rfl (by decide) (lc' := [(2, 65), (0, 1)]) rfl dX12_readBook_139 ?_
      exact st_locals [(2, 65), (0, 1)] ⟨Or.inr rfl, Or.inr rfl, trivial⟩ (k3 h1 h2)
theorem bk_X12_readBook_140 {d : Nat} {d1 : Nat} {P1 : Int → mmM → Prop} {d2 : Nat} {P2 : mmM → Prop} {d3 : Nat} {P3 : mmM → Prop} {P : Int → mmM → Prop} {mem : mmM} {x1 : Int}
  (c1 : ¬ x1 = 0 → (mem 65 4) = (-1) → ¬ (mem 65 21) = 0 → con 0 bJ6_numberOfLeadingZeros_0f7a4 d1 [(0, (mem 65 21))] mem P1)
  (c2 : ¬ x1 = 0 → (mem 65 4) = (-1) → ¬ (mem 65 21) = 0 → ∀ (v1 : Int), ∀ (m1 : mmM), P1 v1 m1 → conv bX12_cutText d2 [(2, 65), (0, (31 - v1))] m1 P2)
  (c3 : ¬ x1 = 0 → (mem 65 4) = (-1) → (mem 65 21) = 0 → conv bX12_cutText d3 [(2, 65), (0, (-1))] mem P3)
  (k1 : x1 = 0 → mmT bX12_readBook d 0 0 (mQ 0 P) 221 [(2, 65), (9, 0)] [] mS mem)
  (k2 : ¬ x1 = 0 → ¬ (mem 65 4) = (-1) → mmT bX12_readBook d 0 0 (mQ 0 P) 221 [(2, 65), (9, 0)] [] mS mem)
  (k3 : ¬ x1 = 0 → (mem 65 4) = (-1) → ¬ (mem 65 21) = 0 → ∀ (v1 : Int), ∀ (m1 : mmM), P1 v1 m1 → ∀ (m2 : mmM), P2 m2 → mmT bX12_readBook d 0 0 (mQ 0 P) 177 [(2, 65), (9, 0)] [] mS m2)
  (k4 : ¬ x1 = 0 → (mem 65 4) = (-1) → (mem 65 21) = 0 → ∀ (m3 : mmM), P3 m3 → mmT bX12_readBook d 0 0 (mQ 0 P) 177 [(2, 65), (9, 0)] [] mS m3)
  (hd_d1 : d1 + 1 ≤ d := by omega)
  (hd_d2 : d2 + 1 ≤ d := by omega)
  (hd_d3 : d3 + 1 ≤ d := by omega)
  (s1 : R32 x1 := by intros; first | omega | assumption | solve_by_elim)
  : mmT bX12_readBook d 0 0 (mQ 0 P) 140 [(2, 65), (0, x1)] [] mS mem := by
  refine st_iload_n (i := 1) rfl rfl dX12_readBook_140 ?_
  refine sr_if_eq 221 s1 (by decide) dX12_readBook_141 (fun h1 => ?_) (fun h1 => ?_)
  · have h1 : x1 = 0 := by omega
    exact st_locals [(2, 65), (9, 0)] ⟨Or.inr rfl, Or.inl rfl, trivial⟩ (k1 h1)
  · have h1 : ¬ x1 = 0 := by omega
    refine st_aload_n (i := 0) rfl (t := 0) rfl (by decide) dX12_readBook_144 ?_
    refine so_getI (v := (mem 65 4)) 65 4 fr_X12_131_11 rfl sh_65 rfl dX12_readBook_145 (fun r1 => ?_)
    refine st_iconst dX12_readBook_148 ?_
    refine sr_icmp_ne 221 r1 ⟨by decide, by decide⟩ (by decide) dX12_readBook_149 (fun h2 => ?_) (fun h2 => ?_)
    · have h2 : ¬ (mem 65 4) = (-1) := by omega
      exact st_locals [(2, 65), (9, 0)] ⟨Or.inr rfl, Or.inl rfl, trivial⟩ (k2 h1 h2)
    · have h2 : (mem 65 4) = (-1) := by omega
      refine st_aload_n (i := 0) rfl (t := 0) rfl (by decide) dX12_readBook_152 ?_
      refine st_aload_n (i := 0) rfl (t := 0) rfl (by decide) dX12_readBook_153 ?_
      refine so_getI (v := (mem 65 21)) 65 21 fr_X12_242_11 rfl sh_65 rfl dX12_readBook_154 (fun r2 => ?_)
      refine sr_if_ne 164 r2 (by decide) dX12_readBook_157 (fun h3 => ?_) (fun h3 => ?_)
      · have h3 : ¬ (mem 65 21) = 0 := by omega
        refine st_bipush rfl dX12_readBook_164 ?_
        refine st_aload_n (i := 0) rfl (t := 0) rfl (by decide) dX12_readBook_166 ?_
        refine so_getI (v := (mem 65 21)) 65 21 fr_X12_242_11 rfl sh_65 rfl dX12_readBook_167 (fun r3 => ?_)
        refine st_callS (kc2 := 0) (ks2 := 0) (av := [(0, (mem 65 21))]) mr_X12_253 ok_J6_numberOfLeadingZeros_0f7a4 (c1 h1 h2 h3) rfl rfl hd_d1 (Nat.le_refl 0) (Nat.le_refl 0) (Nat.le_of_ble_eq_true rfl) dX12_readBook_170 (mQ.elim fun v1 m1 p1 => ?_)
        refine st_isub dX12_readBook_173 ?_
        refine st_callV (kc2 := 0) (ks2 := 0) (av := [(0, (31 - v1))]) 65 11 mr_X12_256 ok_X12_cutText (c2 h1 h2 h3 v1 m1 p1) rfl sh_65 ⟨_, rfl, rfl, by decide⟩ rfl rfl hd_d2 (Nat.le_refl 0) (Nat.le_refl 0) (Nat.le_of_ble_eq_true rfl) dX12_readBook_174 (mQv.elim fun m2 p2 => ?_)
        exact st_locals [(2, 65), (9, 0)] ⟨Or.inr rfl, Or.inl rfl, trivial⟩ (k3 h1 h2 h3 v1 m1 p1 m2 p2)
      · have h3 : (mem 65 21) = 0 := by omega
        refine st_iconst dX12_readBook_160 ?_
        refine st_goto 174 (by decide) dX12_readBook_161 ?_
        refine st_callV (kc2 := 0) (ks2 := 0) (av := [(0, (-1))]) 65 11 mr_X12_256 ok_X12_cutText (c3 h1 h2 h3) rfl sh_65 ⟨_, rfl, rfl, by decide⟩ rfl rfl hd_d3 (Nat.le_refl 0) (Nat.le_refl 0) (Nat.le_of_ble_eq_true rfl) dX12_readBook_174 (mQv.elim fun m3 p3 => ?_)
        exact st_locals [(2, 65), (9, 0)] ⟨Or.inr rfl, Or.inl rfl, trivial⟩ (k4 h1 h2 h3 m3 p3)
theorem bk_X12_readBook_177 {d : Nat} {P : Int → mmM → Prop} {mem : mmM}
  (k1 : ¬ (mem 65 4) = (-1) → mmT bX12_readBook d 0 0 (mQ 0 P) 140 [(2, 65), (0, 0)] [] mS (mset mem 65 3 ((mem 65 3) + 0)))
  (k2 : (mem 65 4) = (-1) → ¬ (hereM (lookM mem)) = 44 → mmT bX12_readBook d 0 0 (mQ 0 P) 140 [(2, 65), (0, 0)] [] mS (mset (lookM mem) 65 3 (((lookM mem) 65 3) + 0)))
  (k3 : (mem 65 4) = (-1) → (hereM (lookM mem)) = 44 → mmT bX12_readBook d 0 0 (mQ 0 P) 140 [(2, 65), (0, 1)] [] mS (mset (lookM mem) 65 3 (((lookM mem) 65 3) + 1)))
  (hd2 : 2 ≤ d := by omega)
  (s1 : ¬ (mem 65 4) = (-1) → R32 ((mem 65 3) + 0) := by intros; first | omega | assumption | solve_by_elim)
  (s2 : (mem 65 4) = (-1) → bytM mem := by intros; first | omega | assumption | solve_by_elim)
  (s3 : (mem 65 4) = (-1) → 0 ≤ (mem 65 3) := by intros; first | omega | assumption | solve_by_elim)
  (s4 : (mem 65 4) = (-1) → ¬ (hereM (lookM mem)) = 44 → R32 (((lookM mem) 65 3) + 0) := by intros; first | omega | assumption | solve_by_elim)
  (s5 : (mem 65 4) = (-1) → (hereM (lookM mem)) = 44 → R32 (((lookM mem) 65 3) + 1) := by intros; first | omega | assumption | solve_by_elim)
  : mmT bX12_readBook d 0 0 (mQ 0 P) 177 [(2, 65), (9, 0)] [] mS mem := by
  refine st_aload_n (i := 0) rfl (t := 0) rfl (by decide) dX12_readBook_177 ?_
  refine so_getI (v := (mem 65 4)) 65 4 fr_X12_131_11 rfl sh_65 rfl dX12_readBook_178 (fun r1 => ?_)
  refine st_iconst dX12_readBook_181 ?_
  refine sr_icmp_ne 198 r1 ⟨by decide, by decide⟩ (by decide) dX12_readBook_182 (fun h1 => ?_) (fun h1 => ?_)
  · have h1 : ¬ (mem 65 4) = (-1) := by omega
    refine st_iconst dX12_readBook_198 ?_
    refine st_istore_n (i := 1) rfl (by decide) (lc' := [(2, 65), (0, 0)]) rfl dX12_readBook_199 ?_
    refine st_aload_n (i := 0) rfl (t := 0) rfl (by decide) dX12_readBook_200 ?_
    refine st_dup (Nat.ne_of_beq_eq_false rfl) dX12_readBook_201 ?_
    refine so_getI (v := (mem 65 3)) 65 3 fr_X12_124_11 rfl sh_65 rfl dX12_readBook_202 (fun r2 => ?_)
    refine st_iload_n (i := 1) rfl rfl dX12_readBook_205 ?_
    refine sr_if_eq 213 ⟨by decide, by decide⟩ (by decide) dX12_readBook_206 (fun h => ?_) (fun h => ?_)
    rotate_left
    · exact absurd h (by decide)
    refine st_iconst dX12_readBook_213 ?_
    refine st_iadd dX12_readBook_214 ?_
    refine so_putI 65 3 fr_X12_124_11 pf_11_3 fo_65_3 rfl sh_65 (s1 h1) dX12_readBook_215 ?_
    refine st_goto 140 (by decide) dX12_readBook_218 ?_
    exact st_locals [(2, 65), (0, 0)] ⟨Or.inr rfl, Or.inr rfl, trivial⟩ (k1 h1)
  · have h1 : (mem 65 4) = (-1) := by omega
    refine st_aload_n (i := 0) rfl (t := 0) rfl (by decide) dX12_readBook_185 ?_
    refine st_callV (kc2 := 0) (ks2 := 0) (av := []) 65 11 mr_X12_143 ok_X12_look (c_X12_look mem ((s2 h1)) ((s3 h1))) rfl sh_65 ⟨_, rfl, rfl, by decide⟩ rfl rfl hd2 (Nat.le_refl 0) (Nat.le_refl 0) (Nat.le_of_ble_eq_true rfl) dX12_readBook_186 (mQ.elim fun v1 m1 hp => ?_)
    obtain ⟨hpv, hpm⟩ := hp
    subst hpv
    have hpm := hpm.symm
    subst hpm
    refine st_bipush rfl dX12_readBook_189 ?_
    refine sr_icmp_ne 198 (lookM_rng mem ((s2 h1)) ((s3 h1))) ⟨by decide, by decide⟩ (by decide) dX12_readBook_191 (fun h2 => ?_) (fun h2 => ?_)
    · have h2 : ¬ (hereM (lookM mem)) = 44 := by omega
      refine st_iconst dX12_readBook_198 ?_
      refine st_istore_n (i := 1) rfl (by decide) (lc' := [(2, 65), (0, 0)]) rfl dX12_readBook_199 ?_
      refine st_aload_n (i := 0) rfl (t := 0) rfl (by decide) dX12_readBook_200 ?_
      refine st_dup (Nat.ne_of_beq_eq_false rfl) dX12_readBook_201 ?_
      refine so_getI (v := ((lookM mem) 65 3)) 65 3 fr_X12_124_11 rfl sh_65 rfl dX12_readBook_202 (fun r3 => ?_)
      refine st_iload_n (i := 1) rfl rfl dX12_readBook_205 ?_
      refine sr_if_eq 213 ⟨by decide, by decide⟩ (by decide) dX12_readBook_206 (fun h => ?_) (fun h => ?_)
      rotate_left
      · exact absurd h (by decide)
      refine st_iconst dX12_readBook_213 ?_
      refine st_iadd dX12_readBook_214 ?_
      refine so_putI 65 3 fr_X12_124_11 pf_11_3 fo_65_3 rfl sh_65 (s4 h1 h2) dX12_readBook_215 ?_
      refine st_goto 140 (by decide) dX12_readBook_218 ?_
      exact st_locals [(2, 65), (0, 0)] ⟨Or.inr rfl, Or.inr rfl, trivial⟩ (k2 h1 h2)
    · have h2 : (hereM (lookM mem)) = 44 := by omega
      refine st_iconst dX12_readBook_194 ?_
      refine st_goto 199 (by decide) dX12_readBook_195 ?_
      refine st_istore_n (i := 1) rfl (by decide) (lc' := [(2, 65), (0, 1)]) rfl dX12_readBook_199 ?_
      refine st_aload_n (i := 0) rfl (t := 0) rfl (by decide) dX12_readBook_200 ?_
      refine st_dup (Nat.ne_of_beq_eq_false rfl) dX12_readBook_201 ?_
      refine so_getI (v := ((lookM mem) 65 3)) 65 3 fr_X12_124_11 rfl sh_65 rfl dX12_readBook_202 (fun r4 => ?_)
      refine st_iload_n (i := 1) rfl rfl dX12_readBook_205 ?_
      refine sr_if_eq 213 ⟨by decide, by decide⟩ (by decide) dX12_readBook_206 (fun h => ?_) (fun h => ?_)
      · exact absurd h (by decide)
      refine st_iconst dX12_readBook_209 ?_
      refine st_goto 214 (by decide) dX12_readBook_210 ?_
      refine st_iadd dX12_readBook_214 ?_
      refine so_putI 65 3 fr_X12_124_11 pf_11_3 fo_65_3 rfl sh_65 (s5 h1 h2) dX12_readBook_215 ?_
      refine st_goto 140 (by decide) dX12_readBook_218 ?_
      exact st_locals [(2, 65), (0, 1)] ⟨Or.inr rfl, Or.inr rfl, trivial⟩ (k3 h1 h2)
theorem bk_X12_readBook_221 {d : Nat} {d1 : Nat} {P1 : Int → mmM → Prop} {P : Int → mmM → Prop} {mem : mmM}
  (c1 : con 0 bX12_atEnd d1 [(2, 65)] mem P1)
  (q1 : ∀ (v1 : Int), ∀ (m1 : mmM), P1 v1 m1 → P v1 m1)
  (hd_d1 : d1 + 1 ≤ d := by omega)
  : mmT bX12_readBook d 0 0 (mQ 0 P) 221 [(2, 65), (9, 0)] [] mS mem := by
  refine st_aload_n (i := 0) rfl (t := 0) rfl (by decide) dX12_readBook_221 ?_
  refine st_callV (kc2 := 0) (ks2 := 0) (av := []) 65 11 mr_X12_201 ok_X12_atEnd c1 rfl sh_65 ⟨_, rfl, rfl, by decide⟩ rfl rfl hd_d1 (Nat.le_refl 0) (Nat.le_refl 0) (Nat.le_of_ble_eq_true rfl) dX12_readBook_222 (mQ.elim fun v1 m1 p1 => ?_)
  exact st_ireturn rfl dX12_readBook_225 (mQ.ret (q1 v1 m1 p1))
def bookM (mem : mmM) : Int ⊕ (Int × (Int → Int) × (Int → Int) × (Int → Int) × (Int → Int)) → Int → mmM → Prop
  | .inl f, v, m => v = f ∧ 0 ≤ f ∧ mFr mem m
  | .inr (c, A, W, L, K), v, m => v = -1 ∧ mFr mem m ∧ m 65 20 = c ∧ (∀ k, 0 ≤ k → k < c → m 76 k = A k ∧ m 77 k = W k ∧ m 78 k = L k) ∧ (0 ≤ m 65 21 ∧ m 65 21 < 16777216) ∧ ∀ i, 0 ≤ i → i < 24 → (K i = 0 ↔ tb (m 65 21) i = false)
def rowsA (m : mmM) (c : Int) (A W L : Int → Int) : Prop := ∀ k, 0 ≤ k → k < c → m 76 k = A k ∧ m 77 k = W k ∧ m 78 k = L k
theorem rowsA_upd {m m' : mmM} {i a w l : Int} {A W L : Int → Int} (h : rowsA m i A W L) (h6 : m' 76 = updF (m 76) i a) (h7 : m' 77 = updF (m 77) i w) (h8 : m' 78 = updF (m 78) i l) : rowsA m' (i + 1) (updF A i a) (updF W i w) (updF L i l) := by
  intro k k0 k1
  rw [h6, h7, h8]
  unfold updF
  by_cases q : k = i
  · rw [if_pos q, if_pos q, if_pos q, if_pos q, if_pos q, if_pos q]
    exact ⟨rfl, rfl, rfl⟩
  · rw [if_neg q, if_neg q, if_neg q, if_neg q, if_neg q, if_neg q]
    exact h k k0 (by omega)
theorem rowsA_of {m m' : mmM} {i : Int} {A W L : Int → Int} (h : rowsA m i A W L) (h6 : m' 76 = m 76) (h7 : m' 77 = m 77) (h8 : m' 78 = m 78) : rowsA m' i A W L := by
  unfold rowsA
  rw [h6, h7, h8]
  exact h
abbrev bookR := Int ⊕ (Int × (Int → Int) × (Int → Int) × (Int → Int) × (Int → Int))
/-- behind the speeches and the cuts -/
theorem rb_221 (mem : mmM) (hb : bytM mem) (hp : posM mem) (R : bookR) (m : mmM) (fr : mFr mem m) (h0 : 0 ≤ m 65 3) (h : (∃ f, R = .inl f ∧ 0 ≤ f ∧ m 65 4 = f) ∨ (m 65 4 = -1 ∧ ∃ c A W L K, R = (if CM mem (SM mem (m 65 3)) = 0 then .inr (c, A, W, L, K) else .inl (SM mem (m 65 3))) ∧ m 65 20 = c ∧ rowsA m c A W L ∧ (0 ≤ m 65 21 ∧ m 65 21 < 16777216) ∧ ∀ i, 0 ≤ i → i < 24 → (K i = 0 ↔ tb (m 65 21) i = false))) : mmT bX12_readBook 4 0 0 (mQ 0 (bookM mem R)) 221 [(2, 65), (9, 0)] [] mS m := by
  have ge := SM_ge mem (m 65 3)
  have c := c_X12_atEnd m (mFr_B fr hb) (mFr_P fr hp) h0
  rw [mFr_C fr, mFr_S fr] at c
  refine bk_X12_readBook_221 (d1 := 2) c (fun v1 m1 w1 => ?_)
  rcases w1 with ⟨q1, rfl, rfl⟩ | ⟨q1, q2, rfl, rfl⟩ | ⟨q1, q2, rfl, rfl⟩
  · rcases h with ⟨f, e, f0, ef⟩ | ⟨h4, -⟩
    · rw [e]
      exact ⟨ef, f0, fr⟩
    · exact absurd h4 q1
  · rcases h with ⟨f, e, f0, ef⟩ | ⟨h4, c, A, W, L, K, e, h5, h6, h7, h8⟩
    · omega
    · rw [e, if_pos q2]
      have k : ∀ z, z ≠ 3 → lookM m 65 z = m 65 z := fun z hz => cuM_65 _ _ hz
      have kn : ∀ a, a ≠ 65 → lookM m a = m a := fun a ha => cuM_ne _ _ ha
      refine ⟨rfl, mFr_trans fr (mFr_cu m _), by rw [k 20 (by decide)]; exact h5, rowsA_of h6 (kn 76 (by decide)) (kn 77 (by decide)) (kn 78 (by decide)), ?_, ?_⟩
      · rw [k 21 (by decide)]
        exact h7
      · rw [k 21 (by decide)]
        exact h8
  · rcases h with ⟨f, e, f0, ef⟩ | ⟨h4, c, A, W, L, K, e, h5, h6, h7, h8⟩
    · omega
    · rw [e, if_neg q2]
      exact ⟨rfl, by omega, mFr_trans fr (mFr_w m _ _)⟩
/-- the cuts -/
theorem rb_140 (mem : mmM) (hb : bytM mem) (hp : posM mem) (R : bookR) (c : Int) (A W L : Int → Int) (hc : 2 ≤ c ∧ c ≤ 24) : ∀ (k : Nat) (m : mmM) (lo left : Int) (K : Int → Int), mFr mem m → (0 ≤ m 65 3 ∧ m 65 3 ≤ mem 65 2) → m 65 4 = -1 → m 65 20 = c → rowsA m c A W L → (-1 ≤ lo ∧ lo < c) → (2 ≤ left ∧ left ≤ k) → k ≤ 24 → cutRel (m 65 21) lo left c K → R = (match cutsS (CM mem) (SM mem) c k lo left (m 65 3) K with
      | .inl f => .inl f
      | .inr (v, K') => if CM mem (SM mem v) = 0 then .inr (c, A, W, L, K') else .inl (SM mem v)) → mmT bX12_readBook 4 0 0 (mQ 0 (bookM mem R)) 140 [(2, 65), (0, 1)] [] mS m := by
  intro k
  induction k with
  | zero =>
    intro m lo left K fr h0 h4 h5 h6 hlo hleft
    omega
  | succ k ih =>
    intro m lo left K fr h0 h4 h5 h6 hlo hleft hk hr hR
    have hn := hb.1
    have hbm := mFr_B fr hb
    have eC := mFr_C fr
    have eS := mFr_S fr
    have e2 := mFr_2 fr
    have lt : ∀ z, 0 < CM mem z → z < mem 65 2 := fun z h => chT_in h
    have cc : conv bX12_cutText 3 [(2, 65), (0, lo)] m (cutM m K left (cutS (CM mem) (SM mem) c lo left (m 65 3))) := by
      have := c_X12_cutText m hbm (j := m 65 3) (lo := lo) (left := left) (K := K) h0.1 (by rw [e2]; exact h0.2) h4 (by omega) (by omega) (by rw [h5]; exact hr) (by omega)
      rw [cuM_id, eC, eS, h5] at this
      exact this
    have after : ∀ m2, cutM m K left (cutS (CM mem) (SM mem) c lo left (m 65 3)) m2 → mmT bX12_readBook 4 0 0 (mQ 0 (bookM mem R)) 177 [(2, 65), (9, 0)] [] mS m2 := by
      intro m2 w2
      cases hs : cutS (CM mem) (SM mem) c lo left (m 65 3) with
      | inl f =>
        rw [hs] at w2
        obtain ⟨w4, w0, wf, w20, w3⟩ := w2
        rw [cutsS_l hs] at hR
        have ne : ¬ m2 65 4 = -1 := by omega
        refine bk_X12_readBook_177 (fun _ => ?_) (fun g => absurd g ne) (fun g => absurd g ne) (s1 := fun _ => ⟨by omega, by omega⟩) (s2 := fun g => absurd g ne) (s3 := fun g => absurd g ne) (s4 := fun g => absurd g ne) (s5 := fun g => absurd g ne)
        refine bk_X12_readBook_140 (d1 := 0) (d2 := 0) (d3 := 0) (P1 := fun _ _ => True) (P2 := fun _ => True) (P3 := fun _ => True) (fun g => absurd rfl g) (fun g => absurd rfl g) (fun g => absurd rfl g) (fun _ => ?_) (fun g => absurd rfl g) (fun g => absurd rfl g) (fun g => absurd rfl g) (s1 := ⟨by decide, by decide⟩)
        refine rb_221 mem hb hp R _ (mFr_trans (mFr_trans fr wf) (mFr_65 m2 (Or.inl rfl))) (by rw [mset_same]; omega) (Or.inl ⟨f, hR, w0, ?_⟩)
        rw [mset_at, if_neg (by decide), w4]
      | inr x =>
        obtain ⟨t, a, b⟩ := x
        have sb := cutM_bnd h0.2 hs
        rw [hs] at w2
        obtain ⟨w4, wf, w20, w3, wr, w76, w77, w78⟩ := w2
        rw [cutsS_r hs] at hR
        rw [h5] at w20 wr
        have fr2 := mFr_trans fr wf
        have gt := SM_ge mem t
        have ltt := SM_le (m := mem) (i := t) (by omega)
        have lk : lookM m2 = cuM m2 (SM mem t) := by
          unfold lookM
          rw [mFr_S fr2, w3]
        have hi := hereM_is m2 (j := SM mem t) (c := 44) (by omega) (by decide)
        rw [mFr_C fr2] at hi
        have rA : ∀ z, rowsA (cuM m2 z) c A W L := fun z => rowsA_of h6 (by rw [cuM_ne _ _ (by decide), w76]) (by rw [cuM_ne _ _ (by decide), w77]) (by rw [cuM_ne _ _ (by decide), w78])
        have cr : m2 65 21 < 16777216 := by
          have := cutRel_lt wr
          have := p2_24 (i := b + 1) (by omega)
          omega
        refine bk_X12_readBook_177 (fun g => absurd w4 g) (fun _ g => ?_) (fun _ g => ?_) (s1 := fun g => absurd w4 g) (s2 := fun _ => mFr_B fr2 hb) (s3 := fun _ => by omega) (s4 := fun _ _ => by rw [lk, cuM_at]; exact ⟨by omega, by omega⟩) (s5 := fun _ _ => by rw [lk, cuM_at]; exact ⟨by omega, by omega⟩)
        · rw [lk] at g ⊢
          have z : ¬ CM mem (SM mem t) = 44 := fun y => g (hi.mpr y)
          have eA : aftC (CM mem) (SM mem) c k b (left - (b - a + 1)) t (setK K a b) = .inr (SM mem t, setK K a b) := if_neg z
          rw [eA] at hR
          refine bk_X12_readBook_140 (d1 := 0) (d2 := 0) (d3 := 0) (P1 := fun _ _ => True) (P2 := fun _ => True) (P3 := fun _ => True) (fun g => absurd rfl g) (fun g => absurd rfl g) (fun g => absurd rfl g) (fun _ => ?_) (fun g => absurd rfl g) (fun g => absurd rfl g) (fun g => absurd rfl g) (s1 := ⟨by decide, by decide⟩)
          rw [cuM_at, cuM_mset]
          refine rb_221 mem hb hp R _ (mFr_trans fr2 (mFr_cu m2 _)) (by rw [cuM_at]; omega) (Or.inr ⟨by rw [cuM_65 _ _ (by decide)]; exact w4, c, A, W, L, setK K a b, ?_, by rw [cuM_65 _ _ (by decide)]; exact w20, rA _, ?_, ?_⟩)
          · rw [hR, cuM_at, show SM mem t + 0 = SM mem t by omega]
          · rw [cuM_65 _ _ (by decide)]
            exact ⟨wr.1, cr⟩
          · rw [cuM_65 _ _ (by decide)]
            exact wr.2.2.2
        · rw [lk] at g ⊢
          have z : CM mem (SM mem t) = 44 := hi.mp g
          have l2 := lt (SM mem t) (by omega)
          have eA : aftC (CM mem) (SM mem) c k b (left - (b - a + 1)) t (setK K a b) = cutsS (CM mem) (SM mem) c k b (left - (b - a + 1)) (SM mem t + 1) (setK K a b) := if_pos z
          rw [eA] at hR
          rw [cuM_at, cuM_mset]
          refine ih (cuM m2 (SM mem t + 1)) b (left - (b - a + 1)) (setK K a b) (mFr_trans fr2 (mFr_cu m2 _)) (by rw [cuM_at]; omega) (by rw [cuM_65 _ _ (by decide)]; exact w4) (by rw [cuM_65 _ _ (by decide)]; exact w20) (rA _) (by omega) (by omega) (by omega) (by rw [cuM_65 _ _ (by decide)]; exact wr) ?_
          rw [cuM_at]
          exact hR
    have c21 : m 65 21 < 2147483648 := by
      have := cutRel_lt hr
      have := p2_24 (i := lo + 1) (by omega)
      omega
    have np := p2_pos lo
    refine bk_X12_readBook_140 (d1 := 0) (d2 := 3) (d3 := 3) (P1 := fun v m' => 0 ≤ lo ∧ v = 31 - lo ∧ m' = m) (P2 := cutM m K left (cutS (CM mem) (SM mem) c lo left (m 65 3))) (P3 := cutM m K left (cutS (CM mem) (SM mem) c lo left (m 65 3))) (fun _ _ g => ?_) (fun _ _ g v1 m1 w1 => ?_) (fun _ _ g => ?_) (fun g => absurd g (by decide)) (fun _ g => absurd h4 g) (fun _ _ _ v1 m1 w1 m2 w2 => after m2 w2) (fun _ _ _ m2 w2 => after m2 w2) (s1 := ⟨by decide, by decide⟩)
    · rcases hr.2.1 with ⟨z1, z2⟩ | ⟨z1, z2, z3⟩
      · exact absurd z2 g
      · exact con.mono (c_nlz m c21 z1 ⟨z2, z3⟩) (fun v m q => ⟨z1, q⟩)
    · obtain ⟨z1, rfl, rfl⟩ := w1
      rw [show 31 - (31 - lo) = lo by omega]
      exact cc
    · rcases hr.2.1 with ⟨z1, z2⟩ | ⟨z1, z2, z3⟩
      · rw [← z1]
        exact cc
      · omega
/-- behind the speeches -/
theorem rb_91 (mem : mmM) (hb : bytM mem) (hp : posM mem) (R : bookR) (K0 : Int → Int) (hK0 : ∀ i, 0 ≤ i → i < 24 → K0 i = 0) (m : mmM) (fr : mFr mem m) (h0 : 0 ≤ m 65 3 ∧ m 65 3 ≤ mem 65 2) (h : (∃ f, R = .inl f ∧ 0 ≤ f ∧ m 65 4 = f) ∨ (m 65 4 = -1 ∧ m 65 21 = 0 ∧ SM mem (m 65 3) = m 65 3 ∧ ∃ c A W L, (1 ≤ c ∧ c ≤ 24) ∧ R = (if c ≤ 1 then .inl (m 65 3) else if CM mem (m 65 3) = 59 then (match cutsS (CM mem) (SM mem) c 24 (-1) c (m 65 3 + 1) K0 with
      | .inl f => .inl f
      | .inr (v, K') => if CM mem (SM mem v) = 0 then .inr (c, A, W, L, K') else .inl (SM mem v))
    else if CM mem (m 65 3) = 0 then .inr (c, A, W, L, K0) else .inl (m 65 3)) ∧ m 65 20 = c ∧ rowsA m c A W L)) : mmT bX12_readBook 4 0 0 (mQ 0 (bookM mem R)) 91 [(2, 65), (9, 0)] [] mS m := by
  have hn := hb.1
  have lt : ∀ z, 0 < CM mem z → z < mem 65 2 := fun z h => chT_in h
  have f111 : ∀ m' f, mFr mem m' → 0 ≤ m' 65 3 → R = .inl f → 0 ≤ f → m' 65 4 = f → mmT bX12_readBook 4 0 0 (mQ 0 (bookM mem R)) 111 [(2, 65), (9, 0)] [] mS m' := by
    intro m' f fr' h3 e f0 e4
    have ne : ¬ m' 65 4 = -1 := by omega
    exact bk_X12_readBook_111 (fun _ => rb_221 mem hb hp R m' fr' h3 (Or.inl ⟨f, e, f0, e4⟩)) (fun g => absurd g ne) (fun g => absurd g ne) (s1 := fun g => absurd g ne) (s2 := fun g => absurd g ne) (s3 := fun g => absurd g ne)
  rcases h with ⟨f, e, f0, e4⟩ | ⟨e4, e21, es, c, A, W, L, hc, hR, e20, rA⟩
  · have ne : ¬ m 65 4 = -1 := by omega
    exact bk_X12_readBook_91 (fun _ => f111 m f fr h0.1 e f0 e4) (fun g => absurd g ne) (fun g => absurd g ne)
  · refine bk_X12_readBook_91 (fun g => absurd e4 g) (fun _ g => ?_) (fun _ g => ?_)
    · rw [if_neg (by omega)] at hR
      have lk : lookM m = m := by
        unfold lookM
        rw [mFr_S fr, es, cuM_id]
      have hi := hereM_is m (j := m 65 3) (c := 59) h0.1 (by decide)
      rw [cuM_id, mFr_C fr] at hi
      refine bk_X12_readBook_111 (fun g => absurd e4 g) (fun _ g => ?_) (fun _ g => ?_) (s1 := fun _ => mFr_B fr hb) (s2 := fun _ => h0.1) (s3 := fun _ _ => by rw [lk]; exact ⟨by omega, by omega⟩)
      · rw [lk] at g ⊢
        rw [if_neg (fun z => g (hi.mpr z))] at hR
        refine rb_221 mem hb hp R m fr h0.1 (Or.inr ⟨e4, c, A, W, L, K0, ?_, e20, rA, ?_, ?_⟩)
        · rw [es]
          exact hR
        · rw [e21]
          exact ⟨by decide, by decide⟩
        · intro i i0 i1
          rw [e21, tb_0, hK0 i i0 i1]
          constructor <;> (intro _; rfl)
      · rw [lk] at g ⊢
        have z := hi.mp g
        have l2 := lt (m 65 3) (by omega)
        rw [if_pos z] at hR
        refine rb_140 mem hb hp R c A W L (by omega) 24 (cuM m (m 65 3 + 1)) (-1) c K0 (mFr_trans fr (mFr_cu m _)) (by rw [cuM_at]; omega) (by rw [cuM_65 _ _ (by decide)]; exact e4) (by rw [cuM_65 _ _ (by decide)]; exact e20) (rowsA_of rA (cuM_ne _ _ (by decide)) (cuM_ne _ _ (by decide)) (cuM_ne _ _ (by decide))) (by omega) (by omega) (by omega) ?_ (by rw [cuM_at]; exact hR)
        rw [cuM_65 _ _ (by decide), e21]
        refine ⟨Int.le_refl _, Or.inl ⟨rfl, rfl⟩, ?_, fun i i0 i1 => ?_⟩
        · rw [show c - c = 0 by omega]
          rfl
        · rw [tb_0, hK0 i i0 i1]
          constructor <;> (intro _; rfl)
    · rw [if_pos (by omega)] at hR
      have e : badM m = wM m (m 65 3) (m 65 3) := by
        have := badM_cu m (m 65 3) e4
        rw [cuM_id] at this
        exact this
      rw [e]
      exact f111 _ (m 65 3) (mFr_trans fr (mFr_w m _ _)) (by rw [wM_3]; exact h0.1) hR h0.1 (wM_4 _ _ _)
/-- the speeches -/
theorem rb_22 (mem : mmM) (hb : bytM mem) (hp : posM mem) (R : bookR) (K0 : Int → Int) (hK0 : ∀ i, 0 ≤ i → i < 24 → K0 i = 0) : ∀ (k : Nat) (m : mmM) (i : Int) (A W L : Int → Int), i + (k : Int) = 24 → 0 ≤ i → 1 ≤ k → mFr mem m → (0 ≤ m 65 3 ∧ m 65 3 ≤ mem 65 2) → m 65 4 = -1 → m 65 20 = i → m 65 21 = 0 → rowsA m i A W L → R = (match restS (CM mem) (SM mem) k i (m 65 3) A W L with
      | .inl f => .inl f
      | .inr (c, u, A', W', L') => if c ≤ 1 then .inl u else if CM mem u = 59 then (match cutsS (CM mem) (SM mem) c 24 (-1) c (u + 1) K0 with
        | .inl f => .inl f
        | .inr (v, K') => if CM mem (SM mem v) = 0 then .inr (c, A', W', L', K') else .inl (SM mem v))
      else if CM mem u = 0 then .inr (c, A', W', L', K0) else .inl u) → mmT bX12_readBook 4 0 0 (mQ 0 (bookM mem R)) 22 [(2, 65), (0, 1)] [] mS m := by
  intro k
  induction k with
  | zero =>
    intro m i A W L hk i0 h1
    omega
  | succ k ih =>
    intro m i A W L hk i0 _ fr h0 e4 e20 e21 rA hR
    have hn := hb.1
    have hbm := mFr_B fr hb
    have eC := mFr_C fr
    have eS := mFr_S fr
    have e2 := mFr_2 fr
    have lt : ∀ z, 0 < CM mem z → z < mem 65 2 := fun z h => chT_in h
    have cc : conv bX12_speechText 3 [(2, 65)] m (spM m i (spS (CM mem) (SM mem) (m 65 3))) := by
      have := c_X12_speechText m hbm (j := m 65 3) h0.1 (by rw [e2]; exact h0.2) e4 (by omega)
      rw [cuM_id, eC, eS, e20] at this
      exact this
    have done : ∀ m', mmT bX12_readBook 4 0 0 (mQ 0 (bookM mem R)) 91 [(2, 65), (9, 0)] [] mS m' → mmT bX12_readBook 4 0 0 (mQ 0 (bookM mem R)) 22 [(2, 65), (0, 0)] [] mS m' := fun m' q => bk_X12_readBook_22 (d1 := 0) (P1 := fun _ => True) (fun g => absurd rfl g) (fun _ => q) (fun g => absurd rfl g) (fun g => absurd rfl g) (fun g => absurd rfl g) (fun g => absurd rfl g) (fun g => absurd rfl g) (s1 := ⟨by decide, by decide⟩) (s2 := fun g => absurd rfl g) (s3 := fun g => absurd rfl g) (s4 := fun g => absurd rfl g) (s5 := fun g => absurd rfl g) (s6 := fun g => absurd rfl g) (s7 := fun g => absurd rfl g)
    cases hs : spS (CM mem) (SM mem) (m 65 3) with
    | inl f =>
      rw [hs] at cc
      rw [restS_l hs] at hR
      have ne : ∀ {q : Prop} {m1 : mmM}, spM m i (.inl f) m1 → m1 65 4 = -1 → q := fun w g => by
        have := w.1
        have := w.2.1
        omega
      refine bk_X12_readBook_22 (d1 := 3) (P1 := spM m i (.inl f)) (fun _ _ => cc) (fun g => absurd g (by decide)) (fun _ g => absurd e4 g) (fun _ _ m1 w1 g => ?_) (fun _ _ m1 w1 g => ne w1 g) (fun _ _ m1 w1 g => ne w1 g) (fun _ _ m1 w1 g => ne w1 g) (s1 := ⟨by decide, by decide⟩) (s2 := fun _ _ m1 w1 _ => ?_) (s3 := fun _ _ m1 w1 g => ne w1 g) (s4 := fun _ _ m1 w1 g => ne w1 g) (s5 := fun _ _ m1 w1 g => ne w1 g) (s6 := fun _ _ m1 w1 g => ne w1 g) (s7 := fun _ _ m1 w1 g => ne w1 g)
      · obtain ⟨w4, w0, wf, w20, w3⟩ := w1
        refine done _ (rb_91 mem hb hp R K0 hK0 _ (mFr_trans (mFr_trans fr wf) (mFr_65 m1 (Or.inl rfl))) (by rw [mset_same]; omega) (Or.inl ⟨f, hR, w0, ?_⟩))
        rw [mset_at, if_neg (by decide), w4]
      · obtain ⟨w4, w0, wf, w20, w3⟩ := w1
        exact ⟨by omega, by omega⟩
    | inr x =>
      obtain ⟨t, a, w, l⟩ := x
      have sb := spM_bnd hb h0.1 h0.2 hs
      rw [hs] at cc
      rw [restS_r hs] at hR
      have gt := SM_ge mem t
      have ltt := SM_le (m := mem) (i := t) (by omega)
      have lk : ∀ m1, spM m i (.inr (t, a, w, l)) m1 → lookM m1 = cuM m1 (SM mem t) := by
        intro m1 w1
        unfold lookM
        rw [mFr_S (mFr_trans fr w1.2.1), w1.2.2.1]
      have hi : ∀ m1, spM m i (.inr (t, a, w, l)) m1 → (hereM (cuM m1 (SM mem t)) = 44 ↔ CM mem (SM mem t) = 44) := by
        intro m1 w1
        have := hereM_is m1 (j := SM mem t) (c := 44) (by omega) (by decide)
        rw [mFr_C (mFr_trans fr w1.2.1)] at this
        exact this
      have rA' : ∀ m1, spM m i (.inr (t, a, w, l)) m1 → ∀ z, rowsA (cuM m1 z) (i + 1) (updF A i a) (updF W i w) (updF L i l) := by
        intro m1 w1 z
        obtain ⟨w4, wf, w3, w20, w21, w76, w77, w78⟩ := w1
        exact rowsA_of (rowsA_upd rA w76 w77 w78) (cuM_ne _ _ (by decide)) (cuM_ne _ _ (by decide)) (cuM_ne _ _ (by decide))
      have stop : ∀ m1, spM m i (.inr (t, a, w, l)) m1 → ¬ (CM mem (SM mem t) = 44 ∧ k ≠ 0) → mmT bX12_readBook 4 0 0 (mQ 0 (bookM mem R)) 22 [(2, 65), (0, 0)] [] mS (cuM m1 (SM mem t)) := by
        intro m1 w1 z
        have r1 := rA' m1 w1 (SM mem t)
        obtain ⟨w4, wf, w3, w20, w21, w76, w77, w78⟩ := w1
        have eA : aftS (CM mem) (SM mem) k (i + 1) t (updF A i a) (updF W i w) (updF L i l) = .inr (i + 1, SM mem t, updF A i a, updF W i w, updF L i l) := if_neg z
        rw [eA] at hR
        refine done _ (rb_91 mem hb hp R K0 hK0 _ (mFr_trans (mFr_trans fr wf) (mFr_cu m1 _)) (by rw [cuM_at]; omega) (Or.inr ⟨by rw [cuM_65 _ _ (by decide)]; exact w4, by rw [cuM_65 _ _ (by decide), w21, e21], by rw [cuM_at]; exact SM_sm _ _, i + 1, updF A i a, updF W i w, updF L i l, by omega, by rw [cuM_at]; exact hR, by rw [cuM_65 _ _ (by decide)]; exact w20, r1⟩))
      refine bk_X12_readBook_22 (d1 := 3) (P1 := spM m i (.inr (t, a, w, l))) (fun _ _ => cc) (fun g => absurd g (by decide)) (fun _ g => absurd e4 g) (fun _ _ m1 w1 g => absurd w1.1 g) (fun _ _ m1 w1 _ g => ?_) (fun _ _ m1 w1 _ g g2 => ?_) (fun _ _ m1 w1 _ g g2 => ?_) (s1 := ⟨by decide, by decide⟩) (s2 := fun _ _ m1 w1 g => absurd w1.1 g) (s3 := fun _ _ m1 w1 _ => mFr_B (mFr_trans fr w1.2.1) hb) (s4 := fun _ _ m1 w1 _ => by rw [w1.2.2.1]; omega) (s5 := fun _ _ m1 w1 _ _ => by rw [lk m1 w1, cuM_at]; exact ⟨by omega, by omega⟩) (s6 := fun _ _ m1 w1 _ _ _ => by rw [lk m1 w1, cuM_at]; exact ⟨by omega, by omega⟩) (s7 := fun _ _ m1 w1 _ _ _ => by rw [lk m1 w1, cuM_at]; exact ⟨by omega, by omega⟩)
      · rw [lk m1 w1] at g ⊢
        rw [cuM_at, cuM_mset, show SM mem t + 0 = SM mem t by omega]
        exact stop m1 w1 (fun z => g ((hi m1 w1).mpr z.1))
      · rw [lk m1 w1] at g g2 ⊢
        rw [cuM_at, cuM_mset, show SM mem t + 0 = SM mem t by omega]
        rw [cuM_65 _ _ (by decide), w1.2.2.2.1] at g2
        exact stop m1 w1 (fun z => z.2 (by omega))
      · rw [lk m1 w1] at g g2 ⊢
        rw [cuM_at, cuM_mset]
        rw [cuM_65 _ _ (by decide), w1.2.2.2.1] at g2
        have z := (hi m1 w1).mp g
        have l2 := lt (SM mem t) (by omega)
        have eA : aftS (CM mem) (SM mem) k (i + 1) t (updF A i a) (updF W i w) (updF L i l) = restS (CM mem) (SM mem) k (i + 1) (SM mem t + 1) (updF A i a) (updF W i w) (updF L i l) := if_pos ⟨z, by omega⟩
        rw [eA] at hR
        have r1 := rA' m1 w1 (SM mem t + 1)
        obtain ⟨w4, wf, w3, w20, w21, w76, w77, w78⟩ := w1
        exact ih (cuM m1 (SM mem t + 1)) (i + 1) _ _ _ (by omega) (by omega) (by omega) (mFr_trans (mFr_trans fr wf) (mFr_cu m1 _)) (by rw [cuM_at]; omega) (by rw [cuM_65 _ _ (by decide)]; exact w4) (by rw [cuM_65 _ _ (by decide)]; exact w20) (by rw [cuM_65 _ _ (by decide), w21, e21]) r1 (by rw [cuM_at]; exact hR)
theorem c_X12_readBook (mem : mmM) (hb : bytM mem) (hp : posM mem) (A W L K0 : Int → Int) (hK0 : ∀ i, 0 ≤ i → i < 24 → K0 i = 0) : con 0 bX12_readBook 4 [(2, 65)] mem (bookM mem (bookS (CM mem) (SM mem) A W L K0)) := by
  have hn := hb.1
  refine cn_X12_readBook (bk_X12_readBook_0 ?_)
  have fr : mFr mem (mset (mset (mset (mset mem 65 3 0) 65 4 (-1)) 65 20 0) 65 21 0) := mFr_trans (mFr_trans (mFr_trans (mFr_65 mem (by omega)) (mFr_65 _ (by omega))) (mFr_65 _ (by omega))) (mFr_65 _ (by omega))
  refine rb_22 mem hb hp _ K0 hK0 24 _ 0 A W L (by omega) (by omega) (by omega) fr ?_ ?_ ?_ (mset_same _ _ _ _) (fun k k0 k1 => by omega) ?_
  · rw [mset_at, if_neg (by decide), mset_at, if_neg (by decide), mset_at, if_neg (by decide), mset_same]
    omega
  · rw [mset_at, if_neg (by decide), mset_at, if_neg (by decide), mset_same]
  · rw [mset_at, if_neg (by decide), mset_same]
  · rw [mset_at, if_neg (by decide), mset_at, if_neg (by decide), mset_at, if_neg (by decide), mset_same]
    rfl
