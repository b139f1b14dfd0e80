/-! the model's reads off its play -/
def cueF (w : Int → Int) (i : Int) : Int := if i = 0 then -1 else w (i - 1)
abbrev likeM (a c : Int → Int) (i j : Int) : Prop := ¬ i = j ∧ 0 < i ∧ 0 < j ∧ a i = a j ∧ c i = c j
/-- the model's play -/
def playM (mem : mmM) : Prop := (0 ≤ mem 65 27 ∧ mem 65 27 ≤ 24) ∧ ∀ i, 0 ≤ i → i < 24 → (0 ≤ mem 79 i ∧ mem 79 i < 8) ∧ (0 ≤ mem 80 i ∧ mem 80 i < 26) ∧ (0 ≤ mem 81 i ∧ mem 81 i ≤ 99)
theorem cueF_rng {mem : mmM} (h : playM mem) {i : Int} (h0 : 0 ≤ i) (h1 : i < 24) : R32 (cueF (mem 80) i) := by
  unfold cueF
  split
  · omega
  · have := h.2 (i - 1) (by omega) (by omega)
    omega
theorem likeM_iff {mem : mmM} (h : playM mem) {i j : Int} (hi : 0 ≤ i ∧ i < mem 65 27) (hj : 0 ≤ j ∧ j < mem 65 27) : likeM (mem 79) (cueF (mem 80)) i j ↔ likeF (mem 65 27) (mem 79) (cueF (mem 80)) j i := by
  have hn := h.1
  have wi : cueF (mem 80) i = -1 ↔ i = 0 := by
    unfold cueF
    split
    · omega
    · have := h.2 (i - 1) (by omega) (by omega)
      omega
  have wj : cueF (mem 80) j = -1 ↔ j = 0 := by
    unfold cueF
    split
    · omega
    · have := h.2 (j - 1) (by omega) (by omega)
      omega
  constructor
  · intro q
    exact ⟨hj, hi, fun e => q.1 e.symm, q.2.2.2.1.symm, q.2.2.2.2.symm, fun e => by omega⟩
  · intro q
    refine ⟨fun e => q.2.2.1 e.symm, ?_, ?_, q.2.2.2.1.symm, q.2.2.2.2.1.symm⟩ <;> omega
theorem c_X12_cue (mem : mmM) (x1 : Int) (h1 : 0 ≤ x1 ∧ x1 < 24) : con 0 bX12_cue 1 [(2, 65), (0, x1)] mem (fun v m => v = cueF (mem 80) x1 ∧ m = mem) := by
  refine cn_X12_cue (bk_X12_cue_0 (fun g => ⟨?_, rfl⟩) (fun g => ⟨?_, rfl⟩))
  · unfold cueF
    rw [if_neg g]
  · unfold cueF
    rw [if_pos g]
theorem cn_X12_areLike {d : Nat} {P : Int → mmM → Prop} {mem : mmM} {x1 x2 : Int} (h : mmT bX12_areLike d 0 0 (mQ 0 P) 0 [(2, 65), (0, x1), (0, x2)] [] mS mem) : con 0 bX12_areLike d [(2, 65), (0, x1), (0, x2)] mem P := mmC_of [(2, 65), (0, x1), (0, x2)] ok_X12_areLike.2.2.2.2 rfl (Nat.le_of_ble_eq_true rfl) h
theorem bk_X12_areLike_0 {d : Nat} {P : Int → mmM → Prop} {mem : mmM} {x1 x2 : Int}
  (q1 : x1 = x2 → P 0 mem)
  (q2 : ¬ x1 = x2 → x1 ≤ 0 → P 0 mem)
  (q3 : ¬ x1 = x2 → 0 < x1 → x2 ≤ 0 → P 0 mem)
  (q4 : ¬ x1 = x2 → 0 < x1 → 0 < x2 → ¬ (mem 79 x1) = (mem 79 x2) → P 0 mem)
  (q5 : ¬ x1 = x2 → 0 < x1 → 0 < x2 → (mem 79 x1) = (mem 79 x2) → ¬ (cueF (mem 80) x1) = (cueF (mem 80) x2) → P 0 mem)
  (q6 : ¬ x1 = x2 → 0 < x1 → 0 < x2 → (mem 79 x1) = (mem 79 x2) → (cueF (mem 80) x1) = (cueF (mem 80) x2) → P 1 mem)
  (hd2 : 2 ≤ d := by omega)
  (s1 : R32 x1 := by intros; first | omega | assumption | solve_by_elim)
  (s2 : R32 x2 := by intros; first | omega | assumption | solve_by_elim)
  (s3 : ¬ x1 = x2 → 0 < x1 → 0 < x2 → 0 ≤ x1 ∧ x1 < 24 := by intros; first | omega | assumption | solve_by_elim)
  (s4 : ¬ x1 = x2 → 0 < x1 → 0 < x2 → 0 ≤ x2 ∧ x2 < 24 := by intros; first | omega | assumption | solve_by_elim)
  (s5 : ¬ x1 = x2 → 0 < x1 → 0 < x2 → (mem 79 x1) = (mem 79 x2) → R32 (cueF (mem 80) x1) := by intros; first | omega | assumption | solve_by_elim)
  (s6 : ¬ x1 = x2 → 0 < x1 → 0 < x2 → (mem 79 x1) = (mem 79 x2) → R32 (cueF (mem 80) x2) := by intros; first | omega | assumption | solve_by_elim)
  : mmT bX12_areLike d 0 0 (mQ 0 P) 0 [(2, 65), (0, x1), (0, x2)] [] mS mem := by
  refine st_iload_n (i := 1) rfl rfl dX12_areLike_0 ?_
  refine st_iload_n (i := 2) rfl rfl dX12_areLike_1 ?_
  refine sr_icmp_eq 45 s1 s2 (by decide) dX12_areLike_2 (fun h1 => ?_) (fun h1 => ?_)
  · have h1 : x1 = x2 := by omega
    refine st_iconst dX12_areLike_45 ?_
    exact st_zreturn rfl (by decide) dX12_areLike_46 (mQ.ret (q1 h1))
  · have h1 : ¬ x1 = x2 := by omega
    refine st_iload_n (i := 1) rfl rfl dX12_areLike_5 ?_
    refine sr_if_le 45 s1 (by decide) dX12_areLike_6 (fun h2 => ?_) (fun h2 => ?_)
    · have h2 : x1 ≤ 0 := by omega
      refine st_iconst dX12_areLike_45 ?_
      exact st_zreturn rfl (by decide) dX12_areLike_46 (mQ.ret (q2 h1 h2))
    · have h2 : 0 < x1 := by omega
      refine st_iload_n (i := 2) rfl rfl dX12_areLike_9 ?_
      refine sr_if_le 45 s2 (by decide) dX12_areLike_10 (fun h3 => ?_) (fun h3 => ?_)
      · have h3 : x2 ≤ 0 := by omega
        refine st_iconst dX12_areLike_45 ?_
        exact st_zreturn rfl (by decide) dX12_areLike_46 (mQ.ret (q3 h1 h2 h3))
      · have h3 : 0 < x2 := by omega
        refine st_aload_n (i := 0) rfl (t := 0) rfl (by decide) dX12_areLike_13 ?_
        refine so_getA 65 22 fr_X12_49_11 rfl sh_65 fx_65_22 dX12_areLike_14 ?_
        refine st_iload_n (i := 1) rfl rfl dX12_areLike_17 ?_
        refine so_iald (v := (mem 79 x1)) 79 rfl sh_79 (by decide) (s3 h1 h2 h3) rfl dX12_areLike_18 (fun r1 => ?_)
        refine st_aload_n (i := 0) rfl (t := 0) rfl (by decide) dX12_areLike_19 ?_
        refine so_getA 65 22 fr_X12_49_11 rfl sh_65 fx_65_22 dX12_areLike_20 ?_
        refine st_iload_n (i := 2) rfl rfl dX12_areLike_23 ?_
        refine so_iald (v := (mem 79 x2)) 79 rfl sh_79 (by decide) (s4 h1 h2 h3) rfl dX12_areLike_24 (fun r2 => ?_)
        refine sr_icmp_ne 45 r1 r2 (by decide) dX12_areLike_25 (fun h4 => ?_) (fun h4 => ?_)
        · have h4 : ¬ (mem 79 x1) = (mem 79 x2) := by omega
          refine st_iconst dX12_areLike_45 ?_
          exact st_zreturn rfl (by decide) dX12_areLike_46 (mQ.ret (q4 h1 h2 h3 h4))
        · have h4 : (mem 79 x1) = (mem 79 x2) := by omega
          refine st_aload_n (i := 0) rfl (t := 0) rfl (by decide) dX12_areLike_28 ?_
          refine st_iload_n (i := 1) rfl rfl dX12_areLike_29 ?_
          refine st_callV (kc2 := 0) (ks2 := 0) (av := [(0, x1)]) 65 11 mr_X12_297 ok_X12_cue (c_X12_cue mem x1 ((s3 h1 h2 h3))) rfl sh_65 ⟨_, rfl, rfl, by decide⟩ rfl rfl hd2 (Nat.le_refl 0) (Nat.le_refl 0) (Nat.le_of_ble_eq_true rfl) dX12_areLike_30 (mQ.elim fun v1 m1 hp => ?_)
          obtain ⟨hpv, hpm⟩ := hp
          subst hpv
          have hpm := hpm.symm
          subst hpm
          refine st_aload_n (i := 0) rfl (t := 0) rfl (by decide) dX12_areLike_33 ?_
          refine st_iload_n (i := 2) rfl rfl dX12_areLike_34 ?_
          refine st_callV (kc2 := 0) (ks2 := 0) (av := [(0, x2)]) 65 11 mr_X12_297 ok_X12_cue (c_X12_cue mem x2 ((s4 h1 h2 h3))) rfl sh_65 ⟨_, rfl, rfl, by decide⟩ rfl rfl hd2 (Nat.le_refl 0) (Nat.le_refl 0) (Nat.le_of_ble_eq_true rfl) dX12_areLike_35 (mQ.elim fun v2 m2 hp => ?_)
          obtain ⟨hpv, hpm⟩ := hp
          subst hpv
          have hpm := hpm.symm
          subst hpm
          refine sr_icmp_ne 45 (s5 h1 h2 h3 h4) (s6 h1 h2 h3 h4) (by decide) dX12_areLike_38 (fun h5 => ?_) (fun h5 => ?_)
          · have h5 : ¬ (cueF (mem 80) x1) = (cueF (mem 80) x2) := by omega
            refine st_iconst dX12_areLike_45 ?_
            exact st_zreturn rfl (by decide) dX12_areLike_46 (mQ.ret (q5 h1 h2 h3 h4 h5))
          · have h5 : (cueF (mem 80) x1) = (cueF (mem 80) x2) := by omega
            refine st_iconst dX12_areLike_41 ?_
            refine st_goto 46 (by decide) dX12_areLike_42 ?_
            exact st_zreturn rfl (by decide) dX12_areLike_46 (mQ.ret (q6 h1 h2 h3 h4 h5))
theorem c_X12_areLike (mem : mmM) (x1 x2 : Int) (h1 : 0 ≤ x1 ∧ x1 < 24) (h2 : 0 ≤ x2 ∧ x2 < 24) (hp : playM mem) : con 0 bX12_areLike 2 [(2, 65), (0, x1), (0, x2)] mem (fun v m => v = b2i (likeM (mem 79) (cueF (mem 80)) x1 x2) ∧ m = mem) := by
  have r1 := cueF_rng hp h1.1 h1.2
  have r2 := cueF_rng hp h2.1 h2.2
  refine cn_X12_areLike (bk_X12_areLike_0 ?_ ?_ ?_ ?_ ?_ ?_ (s5 := fun _ _ _ _ => r1) (s6 := fun _ _ _ _ => r2)) <;> (intros; refine ⟨?_, rfl⟩; unfold b2i; split <;> first | rfl | (exfalso; omega))
theorem cn_X12_gap {d : Nat} {P : Int → mmM → Prop} {mem : mmM} {x1 : Int} (h : mmT bX12_gap d 0 0 (mQ 0 P) 0 [(2, 65), (0, x1), (9, 0)] [] mS mem) : con 0 bX12_gap d [(2, 65), (0, x1)] mem P := mmC_of [(2, 65), (0, x1), (9, 0)] ok_X12_gap.2.2.2.2 rfl (Nat.le_of_ble_eq_true rfl) h
theorem bk_X12_gap_0 {d : Nat} {P : Int → mmM → Prop} {mem : mmM} {x1 : Int}
  (k1 : mmT bX12_gap d 0 0 (mQ 0 P) 4 [(2, 65), (0, x1), (0, (x1 - 1))] [] mS mem)
  : mmT bX12_gap d 0 0 (mQ 0 P) 0 [(2, 65), (0, x1), (9, 0)] [] mS mem := by
  refine st_iload_n (i := 1) rfl rfl dX12_gap_0 ?_
  refine st_iconst dX12_gap_1 ?_
  refine st_isub dX12_gap_2 ?_
  refine st_istore_n (i := 2) rfl (by decide) (lc' := [(2, 65), (0, x1), (0, (x1 - 1))]) rfl dX12_gap_3 ?_
  exact st_locals [(2, 65), (0, x1), (0, (x1 - 1))] ⟨Or.inr rfl, Or.inr rfl, Or.inr rfl, trivial⟩ k1
theorem bk_X12_gap_4 {d : Nat} {P : Int → mmM → Prop} {mem : mmM} {x1 x2 : Int}
  (k1 : 0 ≤ x2 → ¬ (mem 79 x2) = (mem 79 x1) → mmT bX12_gap d 0 0 (mQ 0 P) 4 [(2, 65), (0, x1), (0, (x2 + (-1)))] [] mS mem)
  (q1 : x2 < 0 → P x1 mem)
  (q2 : 0 ≤ x2 → (mem 79 x2) = (mem 79 x1) → P ((x1 - x2) - 1) mem)
  (s1 : R32 x2 := by intros; first | omega | assumption | solve_by_elim)
  (s2 : 0 ≤ x2 → 0 ≤ x2 ∧ x2 < 24 := by intros; first | omega | assumption | solve_by_elim)
  (s3 : 0 ≤ x2 → 0 ≤ x1 ∧ x1 < 24 := by intros; first | omega | assumption | solve_by_elim)
  : mmT bX12_gap d 0 0 (mQ 0 P) 4 [(2, 65), (0, x1), (0, x2)] [] mS mem := by
  refine st_iload_n (i := 2) rfl rfl dX12_gap_4 ?_
  refine sr_if_lt 35 s1 (by decide) dX12_gap_5 (fun h1 => ?_) (fun h1 => ?_)
  · have h1 : x2 < 0 := by omega
    refine st_iload_n (i := 1) rfl rfl dX12_gap_35 ?_
    exact st_ireturn rfl dX12_gap_36 (mQ.ret (q1 h1))
  · have h1 : 0 ≤ x2 := by omega
    refine st_aload_n (i := 0) rfl (t := 0) rfl (by decide) dX12_gap_8 ?_
    refine so_getA 65 22 fr_X12_49_11 rfl sh_65 fx_65_22 dX12_gap_9 ?_
    refine st_iload_n (i := 2) rfl rfl dX12_gap_12 ?_
    refine so_iald (v := (mem 79 x2)) 79 rfl sh_79 (by decide) (s2 h1) rfl dX12_gap_13 (fun r1 => ?_)
    refine st_aload_n (i := 0) rfl (t := 0) rfl (by decide) dX12_gap_14 ?_
    refine so_getA 65 22 fr_X12_49_11 rfl sh_65 fx_65_22 dX12_gap_15 ?_
    refine st_iload_n (i := 1) rfl rfl dX12_gap_18 ?_
    refine so_iald (v := (mem 79 x1)) 79 rfl sh_79 (by decide) (s3 h1) rfl dX12_gap_19 (fun r2 => ?_)
    refine sr_icmp_ne 29 r1 r2 (by decide) dX12_gap_20 (fun h2 => ?_) (fun h2 => ?_)
    · have h2 : ¬ (mem 79 x2) = (mem 79 x1) := by omega
      refine st_iinc (y := (x2 + (-1))) (by decide) (i := 2) rfl rfl (lc' := [(2, 65), (0, x1), (0, (x2 + (-1)))]) rfl dX12_gap_29 ?_
      refine st_goto 4 (by decide) dX12_gap_32 ?_
      exact st_locals [(2, 65), (0, x1), (0, (x2 + (-1)))] ⟨Or.inr rfl, Or.inr rfl, Or.inr rfl, trivial⟩ (k1 h1 h2)
    · have h2 : (mem 79 x2) = (mem 79 x1) := by omega
      refine st_iload_n (i := 1) rfl rfl dX12_gap_23 ?_
      refine st_iload_n (i := 2) rfl rfl dX12_gap_24 ?_
      refine st_isub dX12_gap_25 ?_
      refine st_iconst dX12_gap_26 ?_
      refine st_isub dX12_gap_27 ?_
      exact st_ireturn rfl dX12_gap_28 (mQ.ret (q2 h1 h2))
theorem c_X12_gap (mem : mmM) (x1 : Int) (h1 : 0 ≤ x1 ∧ x1 < 24) : con 0 bX12_gap 1 [(2, 65), (0, x1)] mem (fun v m => v = gapF (mem 79) x1 ∧ m = mem) := by
  refine cn_X12_gap (bk_X12_gap_0 ?_)
  have key : ∀ (k : Nat), (k : Int) ≤ x1 → dnTo (fun i => decide (mem 79 i = mem 79 x1)) k = dnTo (fun i => decide (mem 79 i = mem 79 x1)) x1.toNat → mmT bX12_gap 1 0 0 (mQ 0 (fun v m => v = gapF (mem 79) x1 ∧ m = mem)) 4 [(2, 65), (0, x1), (0, (k : Int) - 1)] [] mS mem := by
    intro k
    induction k with
    | zero =>
      intro h2 h3
      refine bk_X12_gap_4 (fun g => by omega) (fun g => ⟨?_, rfl⟩) (fun g => by omega)
      unfold gapF
      rw [← h3]
      rfl
    | succ k ih =>
      intro h2 h3
      rw [dnTo_succ] at h3
      have e : (((k + 1 : Nat) : Int) - 1) = k := by omega
      rw [e]
      refine bk_X12_gap_4 (fun g1 g2 => ?_) (fun g => by omega) (fun g1 g2 => ⟨?_, rfl⟩)
      · rw [if_neg (fun q => g2 (of_decide_eq_true q))] at h3
        exact ih (by omega) h3
      · rw [if_pos (decide_eq_true g2)] at h3
        unfold gapF
        rw [← h3, if_neg (by omega)]
  have := key x1.toNat (by omega) rfl
  rw [show ((x1.toNat : Nat) : Int) = x1 by omega] at this
  exact this
theorem cn_X12_likes {d : Nat} {P : Int → mmM → Prop} {mem : mmM} {x1 : Int} (h : mmT bX12_likes d 0 0 (mQ 0 P) 0 [(2, 65), (0, x1), (9, 0), (9, 0)] [] mS mem) : con 0 bX12_likes d [(2, 65), (0, x1)] mem P := mmC_of [(2, 65), (0, x1), (9, 0), (9, 0)] ok_X12_likes.2.2.2.2 rfl (Nat.le_of_ble_eq_true rfl) h
theorem bk_X12_likes_0 {d : Nat} {P : Int → mmM → Prop} {mem : mmM} {x1 : Int}
  (k1 : mmT bX12_likes d 0 0 (mQ 0 P) 4 [(2, 65), (0, x1), (0, 0), (0, 0)] [] mS mem)
  : mmT bX12_likes d 0 0 (mQ 0 P) 0 [(2, 65), (0, x1), (9, 0), (9, 0)] [] mS mem := by
  refine st_iconst dX12_likes_0 ?_
  refine st_istore_n (i := 2) rfl (by decide) (lc' := [(2, 65), (0, x1), (0, 0), (9, 0)]) rfl dX12_likes_1 ?_
  refine st_iconst dX12_likes_2 ?_
  refine st_istore_n (i := 3) rfl (by decide) (lc' := [(2, 65), (0, x1), (0, 0), (0, 0)]) rfl dX12_likes_3 ?_
  exact st_locals [(2, 65), (0, x1), (0, 0), (0, 0)] ⟨Or.inr rfl, Or.inr rfl, Or.inr rfl, Or.inr rfl, trivial⟩ k1
theorem bk_X12_likes_4 {d : Nat} {P : Int → mmM → Prop} {mem : mmM} {x1 x2 x3 : Int}
  (k1 : x3 < (mem 65 27) → ¬ (likeM (mem 79) (cueF (mem 80)) x1 x3) → mmT bX12_likes d 0 0 (mQ 0 P) 4 [(2, 65), (0, x1), (0, (x2 + 0)), (0, (x3 + 1))] [] mS mem)
  (k2 : x3 < (mem 65 27) → (likeM (mem 79) (cueF (mem 80)) x1 x3) → mmT bX12_likes d 0 0 (mQ 0 P) 4 [(2, 65), (0, x1), (0, (x2 + 1)), (0, (x3 + 1))] [] mS mem)
  (q1 : (mem 65 27) ≤ x3 → P x2 mem)
  (hd3 : 3 ≤ d := by omega)
  (s1 : R32 x3 := by intros; first | omega | assumption | solve_by_elim)
  (s2 : x3 < (mem 65 27) → 0 ≤ x1 ∧ x1 < 24 := by intros; first | omega | assumption | solve_by_elim)
  (s3 : x3 < (mem 65 27) → 0 ≤ x3 ∧ x3 < 24 := by intros; first | omega | assumption | solve_by_elim)
  (s4 : x3 < (mem 65 27) → playM mem := by intros; first | omega | assumption | solve_by_elim)
  : mmT bX12_likes d 0 0 (mQ 0 P) 4 [(2, 65), (0, x1), (0, x2), (0, x3)] [] mS mem := by
  refine st_iload_n (i := 3) rfl rfl dX12_likes_4 ?_
  refine st_aload_n (i := 0) rfl (t := 0) rfl (by decide) dX12_likes_5 ?_
  refine so_getI (v := (mem 65 27)) 65 27 fr_X12_268_11 rfl sh_65 rfl dX12_likes_6 (fun r1 => ?_)
  refine sr_icmp_ge 35 s1 r1 (by decide) dX12_likes_9 (fun h1 => ?_) (fun h1 => ?_)
  · have h1 : (mem 65 27) ≤ x3 := by omega
    refine st_iload_n (i := 2) rfl rfl dX12_likes_35 ?_
    exact st_ireturn rfl dX12_likes_36 (mQ.ret (q1 h1))
  · have h1 : x3 < (mem 65 27) := by omega
    refine st_iload_n (i := 2) rfl rfl dX12_likes_12 ?_
    refine st_aload_n (i := 0) rfl (t := 0) rfl (by decide) dX12_likes_13 ?_
    refine st_iload_n (i := 1) rfl rfl dX12_likes_14 ?_
    refine st_iload_n (i := 3) rfl rfl dX12_likes_15 ?_
    refine st_callV (kc2 := 0) (ks2 := 0) (av := [(0, x1), (0, x3)]) 65 11 mr_X12_300 ok_X12_areLike (c_X12_areLike mem x1 x3 ((s2 h1)) ((s3 h1)) ((s4 h1))) rfl sh_65 ⟨_, rfl, rfl, by decide⟩ rfl rfl hd3 (Nat.le_refl 0) (Nat.le_refl 0) (Nat.le_of_ble_eq_true rfl) dX12_likes_16 (mQ.elim fun v1 m1 hp => ?_)
    obtain ⟨hpv, hpm⟩ := hp
    subst hpv
    have hpm := hpm.symm
    subst hpm
    refine so_ifeqB 26 (by decide) dX12_likes_19 (fun h2 => ?_) (fun h2 => ?_)
    · have h2 : ¬ (likeM (mem 79) (cueF (mem 80)) x1 x3) := h2
      refine st_iconst dX12_likes_26 ?_
      refine st_iadd dX12_likes_27 ?_
      refine st_istore_n (i := 2) rfl (by decide) (lc' := [(2, 65), (0, x1), (0, (x2 + 0)), (0, x3)]) rfl dX12_likes_28 ?_
      refine st_iinc (y := (x3 + 1)) (by decide) (i := 3) rfl rfl (lc' := [(2, 65), (0, x1), (0, (x2 + 0)), (0, (x3 + 1))]) rfl dX12_likes_29 ?_
      refine st_goto 4 (by decide) dX12_likes_32 ?_
      exact st_locals [(2, 65), (0, x1), (0, (x2 + 0)), (0, (x3 + 1))] ⟨Or.inr rfl, Or.inr rfl, Or.inr rfl, Or.inr rfl, trivial⟩ (k1 h1 h2)
    · have h2 : (likeM (mem 79) (cueF (mem 80)) x1 x3) := h2
      refine st_iconst dX12_likes_22 ?_
      refine st_goto 27 (by decide) dX12_likes_23 ?_
      refine st_iadd dX12_likes_27 ?_
      refine st_istore_n (i := 2) rfl (by decide) (lc' := [(2, 65), (0, x1), (0, (x2 + 1)), (0, x3)]) rfl dX12_likes_28 ?_
      refine st_iinc (y := (x3 + 1)) (by decide) (i := 3) rfl rfl (lc' := [(2, 65), (0, x1), (0, (x2 + 1)), (0, (x3 + 1))]) rfl dX12_likes_29 ?_
      refine st_goto 4 (by decide) dX12_likes_32 ?_
      exact st_locals [(2, 65), (0, x1), (0, (x2 + 1)), (0, (x3 + 1))] ⟨Or.inr rfl, Or.inr rfl, Or.inr rfl, Or.inr rfl, trivial⟩ (k2 h1 h2)
theorem c_X12_likes (mem : mmM) (x1 : Int) (hp : playM mem) (h1 : 0 ≤ x1 ∧ x1 < mem 65 27) : con 0 bX12_likes 3 [(2, 65), (0, x1)] mem (fun v m => v = likesF (mem 65 27) (mem 79) (cueF (mem 80)) x1 ∧ m = mem) := by
  have hn := hp.1
  refine cn_X12_likes (bk_X12_likes_0 ?_)
  refine loop_up (n := mem 65 27) (fun i => ∀ acc, acc = sumTo (fun j => b2i (likeF (mem 65 27) (mem 79) (cueF (mem 80)) j x1)) i.toNat → mmT bX12_likes 3 0 0 (mQ 0 (fun v m => v = likesF (mem 65 27) (mem 79) (cueF (mem 80)) x1 ∧ m = mem)) 4 [(2, 65), (0, x1), (0, acc), (0, i)] [] mS mem) (fun i h0 h2 ih acc ha => ?_) 0 (by omega) (by omega) 0 rfl
  refine bk_X12_likes_4 (fun g g2 => ih g _ ?_) (fun g g2 => ih g _ ?_) (fun g => ⟨?_, rfl⟩)
  · rw [sumTo_step _ h0, ← ha, b2i_0 (fun q => g2 ((likeM_iff hp h1 ⟨h0, g⟩).mpr q))]
  · rw [sumTo_step _ h0, ← ha, b2i_1 ((likeM_iff hp h1 ⟨h0, g⟩).mp g2)]
  · rw [ha, show i = mem 65 27 by omega]
    rfl
/-- where one leaps, in the model -/
def leapM (mem : mmM) (s : Int) : Int := leapF (mem 83 (mem 79 s)) (mem 65 27) (mem 79) (cueF (mem 80)) s
theorem leapM_bnd {mem : mmM} {s : Int} (h : 0 ≤ s ∧ s < mem 65 27) : -1 ≤ leapM mem s ∧ leapM mem s < mem 65 27 := leapF_bnd h.1 h.2
theorem leapM_rng {mem : mmM} {s : Int} (hp : playM mem) (h : 0 ≤ s ∧ s < mem 65 27) : R32 (leapM mem s) := by
  have := leapM_bnd h
  have := hp.1
  omega
theorem cn_X12_leapOf {d : Nat} {P : Int → mmM → Prop} {mem : mmM} {x1 : Int} (h : mmT bX12_leapOf d 0 0 (mQ 0 P) 0 [(2, 65), (0, x1), (9, 0), (9, 0), (9, 0)] [] mS mem) : con 0 bX12_leapOf d [(2, 65), (0, x1)] mem P := mmC_of [(2, 65), (0, x1), (9, 0), (9, 0), (9, 0)] ok_X12_leapOf.2.2.2.2 rfl (Nat.le_of_ble_eq_true rfl) h
theorem bk_X12_leapOf_0 {d : Nat} {P : Int → mmM → Prop} {mem : mmM} {x1 : Int}
  (k1 : mmT bX12_leapOf d 0 0 (mQ 0 P) 12 [(2, 65), (0, x1), (0, (-1)), (0, (-1)), (0, ((mem 65 27) - 1))] [] mS mem)
  : mmT bX12_leapOf d 0 0 (mQ 0 P) 0 [(2, 65), (0, x1), (9, 0), (9, 0), (9, 0)] [] mS mem := by
  refine st_iconst dX12_leapOf_0 ?_
  refine st_istore_n (i := 2) rfl (by decide) (lc' := [(2, 65), (0, x1), (0, (-1)), (9, 0), (9, 0)]) rfl dX12_leapOf_1 ?_
  refine st_iconst dX12_leapOf_2 ?_
  refine st_istore_n (i := 3) rfl (by decide) (lc' := [(2, 65), (0, x1), (0, (-1)), (0, (-1)), (9, 0)]) rfl dX12_leapOf_3 ?_
  refine st_aload_n (i := 0) rfl (t := 0) rfl (by decide) dX12_leapOf_4 ?_
  refine so_getI (v := (mem 65 27)) 65 27 fr_X12_268_11 rfl sh_65 rfl dX12_leapOf_5 (fun r1 => ?_)
  refine st_iconst dX12_leapOf_8 ?_
  refine st_isub dX12_leapOf_9 ?_
  refine st_istore (by decide) (lc' := [(2, 65), (0, x1), (0, (-1)), (0, (-1)), (0, ((mem 65 27) - 1))]) rfl dX12_leapOf_10 ?_
  exact st_locals [(2, 65), (0, x1), (0, (-1)), (0, (-1)), (0, ((mem 65 27) - 1))] ⟨Or.inr rfl, Or.inr rfl, Or.inr rfl, Or.inr rfl, Or.inr rfl, trivial⟩ k1
theorem bk_X12_leapOf_12 {d : Nat} {P : Int → mmM → Prop} {mem : mmM} {x1 x2 x3 x4 : Int}
  (k1 : 0 ≤ x4 → x4 ≤ x1 → x1 ≤ x4 → mmT bX12_leapOf d 0 0 (mQ 0 P) 12 [(2, 65), (0, x1), (0, x2), (0, x3), (0, (x4 + (-1)))] [] mS mem)
  (k2 : 0 ≤ x4 → x4 ≤ x1 → x4 < x1 → ¬ x3 = (-1) → mmT bX12_leapOf d 0 0 (mQ 0 P) 12 [(2, 65), (0, x1), (0, x2), (0, x3), (0, (x4 + (-1)))] [] mS mem)
  (k3 : 0 ≤ x4 → x4 ≤ x1 → x4 < x1 → x3 = (-1) → ¬ (likeM (mem 79) (cueF (mem 80)) x1 x4) → mmT bX12_leapOf d 0 0 (mQ 0 P) 12 [(2, 65), (0, x1), (0, x2), (0, x3), (0, (x4 + (-1)))] [] mS mem)
  (k4 : 0 ≤ x4 → x4 ≤ x1 → x4 < x1 → x3 = (-1) → (likeM (mem 79) (cueF (mem 80)) x1 x4) → mmT bX12_leapOf d 0 0 (mQ 0 P) 12 [(2, 65), (0, x1), (0, x2), (0, x4), (0, (x4 + (-1)))] [] mS mem)
  (k5 : 0 ≤ x4 → x1 < x4 → ¬ (likeM (mem 79) (cueF (mem 80)) x1 x4) → x1 ≤ x4 → mmT bX12_leapOf d 0 0 (mQ 0 P) 12 [(2, 65), (0, x1), (0, x2), (0, x3), (0, (x4 + (-1)))] [] mS mem)
  (k6 : 0 ≤ x4 → x1 < x4 → ¬ (likeM (mem 79) (cueF (mem 80)) x1 x4) → x4 < x1 → ¬ x3 = (-1) → mmT bX12_leapOf d 0 0 (mQ 0 P) 12 [(2, 65), (0, x1), (0, x2), (0, x3), (0, (x4 + (-1)))] [] mS mem)
  (k7 : 0 ≤ x4 → x1 < x4 → ¬ (likeM (mem 79) (cueF (mem 80)) x1 x4) → x4 < x1 → x3 = (-1) → ¬ (likeM (mem 79) (cueF (mem 80)) x1 x4) → mmT bX12_leapOf d 0 0 (mQ 0 P) 12 [(2, 65), (0, x1), (0, x2), (0, x3), (0, (x4 + (-1)))] [] mS mem)
  (k8 : 0 ≤ x4 → x1 < x4 → ¬ (likeM (mem 79) (cueF (mem 80)) x1 x4) → x4 < x1 → x3 = (-1) → (likeM (mem 79) (cueF (mem 80)) x1 x4) → mmT bX12_leapOf d 0 0 (mQ 0 P) 12 [(2, 65), (0, x1), (0, x2), (0, x4), (0, (x4 + (-1)))] [] mS mem)
  (k9 : 0 ≤ x4 → x1 < x4 → (likeM (mem 79) (cueF (mem 80)) x1 x4) → x1 ≤ x4 → mmT bX12_leapOf d 0 0 (mQ 0 P) 12 [(2, 65), (0, x1), (0, x4), (0, x3), (0, (x4 + (-1)))] [] mS mem)
  (k10 : 0 ≤ x4 → x1 < x4 → (likeM (mem 79) (cueF (mem 80)) x1 x4) → x4 < x1 → ¬ x3 = (-1) → mmT bX12_leapOf d 0 0 (mQ 0 P) 12 [(2, 65), (0, x1), (0, x4), (0, x3), (0, (x4 + (-1)))] [] mS mem)
  (k11 : 0 ≤ x4 → x1 < x4 → (likeM (mem 79) (cueF (mem 80)) x1 x4) → x4 < x1 → x3 = (-1) → ¬ (likeM (mem 79) (cueF (mem 80)) x1 x4) → mmT bX12_leapOf d 0 0 (mQ 0 P) 12 [(2, 65), (0, x1), (0, x4), (0, x3), (0, (x4 + (-1)))] [] mS mem)
  (k12 : 0 ≤ x4 → x1 < x4 → (likeM (mem 79) (cueF (mem 80)) x1 x4) → x4 < x1 → x3 = (-1) → (likeM (mem 79) (cueF (mem 80)) x1 x4) → mmT bX12_leapOf d 0 0 (mQ 0 P) 12 [(2, 65), (0, x1), (0, x4), (0, x4), (0, (x4 + (-1)))] [] mS mem)
  (q1 : x4 < 0 → (mem 83 (mem 79 x1)) = 0 → P (-1) mem)
  (q2 : x4 < 0 → ¬ (mem 83 (mem 79 x1)) = 0 → (mem 83 (mem 79 x1)) = 1 → P x2 mem)
  (q3 : x4 < 0 → ¬ (mem 83 (mem 79 x1)) = 0 → ¬ (mem 83 (mem 79 x1)) = 1 → (mem 83 (mem 79 x1)) = 2 → P x3 mem)
  (q4 : x4 < 0 → ¬ (mem 83 (mem 79 x1)) = 0 → ¬ (mem 83 (mem 79 x1)) = 1 → ¬ (mem 83 (mem 79 x1)) = 2 → ¬ x3 = (-1) → x2 = (-1) → P x3 mem)
  (q5 : x4 < 0 → ¬ (mem 83 (mem 79 x1)) = 0 → ¬ (mem 83 (mem 79 x1)) = 1 → ¬ (mem 83 (mem 79 x1)) = 2 → ¬ x3 = (-1) → ¬ x2 = (-1) → (x2 - x1) < (x1 - x3) → P x2 mem)
  (q6 : x4 < 0 → ¬ (mem 83 (mem 79 x1)) = 0 → ¬ (mem 83 (mem 79 x1)) = 1 → ¬ (mem 83 (mem 79 x1)) = 2 → ¬ x3 = (-1) → ¬ x2 = (-1) → (x1 - x3) ≤ (x2 - x1) → P x3 mem)
  (q7 : x4 < 0 → ¬ (mem 83 (mem 79 x1)) = 0 → ¬ (mem 83 (mem 79 x1)) = 1 → ¬ (mem 83 (mem 79 x1)) = 2 → x3 = (-1) → P x2 mem)
  (hd3 : 3 ≤ d := by omega)
  (s1 : R32 x4 := by intros; first | omega | assumption | solve_by_elim)
  (s2 : x4 < 0 → 0 ≤ x1 ∧ x1 < 24 := by intros; first | omega | assumption | solve_by_elim)
  (s3 : x4 < 0 → 0 ≤ (mem 79 x1) ∧ (mem 79 x1) < 8 := by intros; first | omega | assumption | solve_by_elim)
  (s4 : x4 < 0 → ¬ (mem 83 (mem 79 x1)) = 0 → ¬ (mem 83 (mem 79 x1)) = 1 → ¬ (mem 83 (mem 79 x1)) = 2 → R32 x3 := by intros; first | omega | assumption | solve_by_elim)
  (s5 : x4 < 0 → ¬ (mem 83 (mem 79 x1)) = 0 → ¬ (mem 83 (mem 79 x1)) = 1 → ¬ (mem 83 (mem 79 x1)) = 2 → ¬ x3 = (-1) → R32 x2 := by intros; first | omega | assumption | solve_by_elim)
  (s6 : x4 < 0 → ¬ (mem 83 (mem 79 x1)) = 0 → ¬ (mem 83 (mem 79 x1)) = 1 → ¬ (mem 83 (mem 79 x1)) = 2 → ¬ x3 = (-1) → ¬ x2 = (-1) → R32 (x1 - x3) := by intros; first | omega | assumption | solve_by_elim)
  (s7 : x4 < 0 → ¬ (mem 83 (mem 79 x1)) = 0 → ¬ (mem 83 (mem 79 x1)) = 1 → ¬ (mem 83 (mem 79 x1)) = 2 → ¬ x3 = (-1) → ¬ x2 = (-1) → R32 (x2 - x1) := by intros; first | omega | assumption | solve_by_elim)
  (s8 : 0 ≤ x4 → R32 x1 := by intros; first | omega | assumption | solve_by_elim)
  (s9 : 0 ≤ x4 → x4 ≤ x1 → x4 < x1 → R32 x3 := by intros; first | omega | assumption | solve_by_elim)
  (s10 : 0 ≤ x4 → x4 ≤ x1 → x4 < x1 → x3 = (-1) → 0 ≤ x1 ∧ x1 < 24 := by intros; first | omega | assumption | solve_by_elim)
  (s11 : 0 ≤ x4 → x4 ≤ x1 → x4 < x1 → x3 = (-1) → 0 ≤ x4 ∧ x4 < 24 := by intros; first | omega | assumption | solve_by_elim)
  (s12 : 0 ≤ x4 → x4 ≤ x1 → x4 < x1 → x3 = (-1) → playM mem := by intros; first | omega | assumption | solve_by_elim)
  (s13 : 0 ≤ x4 → x1 < x4 → 0 ≤ x1 ∧ x1 < 24 := by intros; first | omega | assumption | solve_by_elim)
  (s14 : 0 ≤ x4 → x1 < x4 → 0 ≤ x4 ∧ x4 < 24 := by intros; first | omega | assumption | solve_by_elim)
  (s15 : 0 ≤ x4 → x1 < x4 → playM mem := by intros; first | omega | assumption | solve_by_elim)
  (s16 : 0 ≤ x4 → x1 < x4 → ¬ (likeM (mem 79) (cueF (mem 80)) x1 x4) → x4 < x1 → R32 x3 := by intros; first | omega | assumption | solve_by_elim)
  (s17 : 0 ≤ x4 → x1 < x4 → (likeM (mem 79) (cueF (mem 80)) x1 x4) → x4 < x1 → R32 x3 := by intros; first | omega | assumption | solve_by_elim)
  : mmT bX12_leapOf d 0 0 (mQ 0 P) 12 [(2, 65), (0, x1), (0, x2), (0, x3), (0, x4)] [] mS mem := by
  refine st_iload rfl dX12_leapOf_12 ?_
  refine sr_if_lt 74 s1 (by decide) dX12_leapOf_14 (fun h1 => ?_) (fun h1 => ?_)
  · have h1 : x4 < 0 := by omega
    refine st_aload_n (i := 0) rfl (t := 0) rfl (by decide) dX12_leapOf_74 ?_
    refine so_getA 65 29 fr_X12_65_11 rfl sh_65 fx_65_29 dX12_leapOf_75 ?_
    refine st_aload_n (i := 0) rfl (t := 0) rfl (by decide) dX12_leapOf_78 ?_
    refine so_getA 65 22 fr_X12_49_11 rfl sh_65 fx_65_22 dX12_leapOf_79 ?_
    refine st_iload_n (i := 1) rfl rfl dX12_leapOf_82 ?_
    refine so_iald (v := (mem 79 x1)) 79 rfl sh_79 (by decide) (s2 h1) rfl dX12_leapOf_83 (fun r1 => ?_)
    refine so_iald (v := (mem 83 (mem 79 x1))) 83 rfl sh_83 (by decide) (s3 h1) rfl dX12_leapOf_84 (fun r2 => ?_)
    by_cases h2 : (mem 83 (mem 79 x1)) = 0
    · refine so_tabI 112 r2 0 h2 (by decide) (by decide) rfl (by decide) dX12_leapOf_85 ?_
      refine st_iconst dX12_leapOf_112 ?_
      exact st_ireturn rfl dX12_leapOf_113 (mQ.ret (q1 h1 h2))
    by_cases h3 : (mem 83 (mem 79 x1)) = 1
    · refine so_tabI 114 r2 1 h3 (by decide) (by decide) rfl (by decide) dX12_leapOf_85 ?_
      refine st_iload_n (i := 2) rfl rfl dX12_leapOf_114 ?_
      exact st_ireturn rfl dX12_leapOf_115 (mQ.ret (q2 h1 h2 h3))
    by_cases h4 : (mem 83 (mem 79 x1)) = 2
    · refine so_tabI 116 r2 2 h4 (by decide) (by decide) rfl (by decide) dX12_leapOf_85 ?_
      refine st_iload_n (i := 3) rfl rfl dX12_leapOf_116 ?_
      exact st_ireturn rfl dX12_leapOf_117 (mQ.ret (q3 h1 h2 h3 h4))
    refine so_tabO 118 r2 (by omega) (by decide) dX12_leapOf_85 ?_
    refine st_iload_n (i := 3) rfl rfl dX12_leapOf_118 ?_
    refine st_iconst dX12_leapOf_119 ?_
    refine sr_icmp_ne 127 (s4 h1 h2 h3 h4) ⟨by decide, by decide⟩ (by decide) dX12_leapOf_120 (fun h5 => ?_) (fun h5 => ?_)
    · have h5 : ¬ x3 = (-1) := by omega
      refine st_iload_n (i := 2) rfl rfl dX12_leapOf_127 ?_
      refine st_iconst dX12_leapOf_128 ?_
      refine sr_icmp_eq 141 (s5 h1 h2 h3 h4 h5) ⟨by decide, by decide⟩ (by decide) dX12_leapOf_129 (fun h6 => ?_) (fun h6 => ?_)
      · have h6 : x2 = (-1) := by omega
        refine st_iload_n (i := 3) rfl rfl dX12_leapOf_141 ?_
        refine st_goto 146 (by decide) dX12_leapOf_142 ?_
        exact st_ireturn rfl dX12_leapOf_146 (mQ.ret (q4 h1 h2 h3 h4 h5 h6))
      · have h6 : ¬ x2 = (-1) := by omega
        refine st_iload_n (i := 1) rfl rfl dX12_leapOf_132 ?_
        refine st_iload_n (i := 3) rfl rfl dX12_leapOf_133 ?_
        refine st_isub dX12_leapOf_134 ?_
        refine st_iload_n (i := 2) rfl rfl dX12_leapOf_135 ?_
        refine st_iload_n (i := 1) rfl rfl dX12_leapOf_136 ?_
        refine st_isub dX12_leapOf_137 ?_
        refine sr_icmp_gt 145 (s6 h1 h2 h3 h4 h5 h6) (s7 h1 h2 h3 h4 h5 h6) (by decide) dX12_leapOf_138 (fun h7 => ?_) (fun h7 => ?_)
        · have h7 : (x2 - x1) < (x1 - x3) := by omega
          refine st_iload_n (i := 2) rfl rfl dX12_leapOf_145 ?_
          exact st_ireturn rfl dX12_leapOf_146 (mQ.ret (q5 h1 h2 h3 h4 h5 h6 h7))
        · have h7 : (x1 - x3) ≤ (x2 - x1) := by omega
          refine st_iload_n (i := 3) rfl rfl dX12_leapOf_141 ?_
          refine st_goto 146 (by decide) dX12_leapOf_142 ?_
          exact st_ireturn rfl dX12_leapOf_146 (mQ.ret (q6 h1 h2 h3 h4 h5 h6 h7))
    · have h5 : x3 = (-1) := by omega
      refine st_iload_n (i := 2) rfl rfl dX12_leapOf_123 ?_
      refine st_goto 146 (by decide) dX12_leapOf_124 ?_
      exact st_ireturn rfl dX12_leapOf_146 (mQ.ret (q7 h1 h2 h3 h4 h5))
  · have h1 : 0 ≤ x4 := by omega
    refine st_iload rfl dX12_leapOf_17 ?_
    refine st_iload_n (i := 1) rfl rfl dX12_leapOf_19 ?_
    refine sr_icmp_le 38 s1 (s8 h1) (by decide) dX12_leapOf_20 (fun h8 => ?_) (fun h8 => ?_)
    · have h8 : x4 ≤ x1 := by omega
      refine st_iload_n (i := 2) rfl rfl dX12_leapOf_38 ?_
      refine st_istore_n (i := 2) rfl (by decide) (lc' := [(2, 65), (0, x1), (0, x2), (0, x3), (0, x4)]) rfl dX12_leapOf_39 ?_
      refine st_iload rfl dX12_leapOf_40 ?_
      refine st_iload_n (i := 1) rfl rfl dX12_leapOf_42 ?_
      refine sr_icmp_ge 66 s1 (s8 h1) (by decide) dX12_leapOf_43 (fun h9 => ?_) (fun h9 => ?_)
      · have h9 : x1 ≤ x4 := by omega
        refine st_iload_n (i := 3) rfl rfl dX12_leapOf_66 ?_
        refine st_istore_n (i := 3) rfl (by decide) (lc' := [(2, 65), (0, x1), (0, x2), (0, x3), (0, x4)]) rfl dX12_leapOf_67 ?_
        refine st_iinc (y := (x4 + (-1))) (by decide) (i := 4) rfl rfl (lc' := [(2, 65), (0, x1), (0, x2), (0, x3), (0, (x4 + (-1)))]) rfl dX12_leapOf_68 ?_
        refine st_goto 12 (by decide) dX12_leapOf_71 ?_
        exact st_locals [(2, 65), (0, x1), (0, x2), (0, x3), (0, (x4 + (-1)))] ⟨Or.inr rfl, Or.inr rfl, Or.inr rfl, Or.inr rfl, Or.inr rfl, trivial⟩ (k1 h1 h8 h9)
      · have h9 : x4 < x1 := by omega
        refine st_iload_n (i := 3) rfl rfl dX12_leapOf_46 ?_
        refine st_iconst dX12_leapOf_47 ?_
        refine sr_icmp_ne 66 (s9 h1 h8 h9) ⟨by decide, by decide⟩ (by decide) dX12_leapOf_48 (fun h10 => ?_) (fun h10 => ?_)
        · have h10 : ¬ x3 = (-1) := by omega
          refine st_iload_n (i := 3) rfl rfl dX12_leapOf_66 ?_
          refine st_istore_n (i := 3) rfl (by decide) (lc' := [(2, 65), (0, x1), (0, x2), (0, x3), (0, x4)]) rfl dX12_leapOf_67 ?_
          refine st_iinc (y := (x4 + (-1))) (by decide) (i := 4) rfl rfl (lc' := [(2, 65), (0, x1), (0, x2), (0, x3), (0, (x4 + (-1)))]) rfl dX12_leapOf_68 ?_
          refine st_goto 12 (by decide) dX12_leapOf_71 ?_
          exact st_locals [(2, 65), (0, x1), (0, x2), (0, x3), (0, (x4 + (-1)))] ⟨Or.inr rfl, Or.inr rfl, Or.inr rfl, Or.inr rfl, Or.inr rfl, trivial⟩ (k2 h1 h8 h9 h10)
        · have h10 : x3 = (-1) := by omega
          refine st_aload_n (i := 0) rfl (t := 0) rfl (by decide) dX12_leapOf_51 ?_
          refine st_iload_n (i := 1) rfl rfl dX12_leapOf_52 ?_
          refine st_iload rfl dX12_leapOf_53 ?_
          refine st_callV (kc2 := 0) (ks2 := 0) (av := [(0, x1), (0, x4)]) 65 11 mr_X12_300 ok_X12_areLike (c_X12_areLike mem x1 x4 ((s10 h1 h8 h9 h10)) ((s11 h1 h8 h9 h10)) ((s12 h1 h8 h9 h10))) rfl sh_65 ⟨_, rfl, rfl, by decide⟩ rfl rfl hd3 (Nat.le_refl 0) (Nat.le_refl 0) (Nat.le_of_ble_eq_true rfl) dX12_leapOf_55 (mQ.elim fun v1 m1 hp => ?_)
          obtain ⟨hpv, hpm⟩ := hp
          subst hpv
          have hpm := hpm.symm
          subst hpm
          refine so_ifeqB 66 (by decide) dX12_leapOf_58 (fun h11 => ?_) (fun h11 => ?_)
          · have h11 : ¬ (likeM (mem 79) (cueF (mem 80)) x1 x4) := h11
            refine st_iload_n (i := 3) rfl rfl dX12_leapOf_66 ?_
            refine st_istore_n (i := 3) rfl (by decide) (lc' := [(2, 65), (0, x1), (0, x2), (0, x3), (0, x4)]) rfl dX12_leapOf_67 ?_
            refine st_iinc (y := (x4 + (-1))) (by decide) (i := 4) rfl rfl (lc' := [(2, 65), (0, x1), (0, x2), (0, x3), (0, (x4 + (-1)))]) rfl dX12_leapOf_68 ?_
            refine st_goto 12 (by decide) dX12_leapOf_71 ?_
            exact st_locals [(2, 65), (0, x1), (0, x2), (0, x3), (0, (x4 + (-1)))] ⟨Or.inr rfl, Or.inr rfl, Or.inr rfl, Or.inr rfl, Or.inr rfl, trivial⟩ (k3 h1 h8 h9 h10 h11)
          · have h11 : (likeM (mem 79) (cueF (mem 80)) x1 x4) := h11
            refine st_iload rfl dX12_leapOf_61 ?_
            refine st_goto 67 (by decide) dX12_leapOf_63 ?_
            refine st_istore_n (i := 3) rfl (by decide) (lc' := [(2, 65), (0, x1), (0, x2), (0, x4), (0, x4)]) rfl dX12_leapOf_67 ?_
            refine st_iinc (y := (x4 + (-1))) (by decide) (i := 4) rfl rfl (lc' := [(2, 65), (0, x1), (0, x2), (0, x4), (0, (x4 + (-1)))]) rfl dX12_leapOf_68 ?_
            refine st_goto 12 (by decide) dX12_leapOf_71 ?_
            exact st_locals [(2, 65), (0, x1), (0, x2), (0, x4), (0, (x4 + (-1)))] ⟨Or.inr rfl, Or.inr rfl, Or.inr rfl, Or.inr rfl, Or.inr rfl, trivial⟩ (k4 h1 h8 h9 h10 h11)
    · have h8 : x1 < x4 := by omega
      refine st_aload_n (i := 0) rfl (t := 0) rfl (by decide) dX12_leapOf_23 ?_
      refine st_iload_n (i := 1) rfl rfl dX12_leapOf_24 ?_
      refine st_iload rfl dX12_leapOf_25 ?_
      refine st_callV (kc2 := 0) (ks2 := 0) (av := [(0, x1), (0, x4)]) 65 11 mr_X12_300 ok_X12_areLike (c_X12_areLike mem x1 x4 ((s13 h1 h8)) ((s14 h1 h8)) ((s15 h1 h8))) rfl sh_65 ⟨_, rfl, rfl, by decide⟩ rfl rfl hd3 (Nat.le_refl 0) (Nat.le_refl 0) (Nat.le_of_ble_eq_true rfl) dX12_leapOf_27 (mQ.elim fun v2 m2 hp => ?_)
      obtain ⟨hpv, hpm⟩ := hp
      subst hpv
      have hpm := hpm.symm
      subst hpm
      refine so_ifeqB 38 (by decide) dX12_leapOf_30 (fun h12 => ?_) (fun h12 => ?_)
      · have h12 : ¬ (likeM (mem 79) (cueF (mem 80)) x1 x4) := h12
        refine st_iload_n (i := 2) rfl rfl dX12_leapOf_38 ?_
        refine st_istore_n (i := 2) rfl (by decide) (lc' := [(2, 65), (0, x1), (0, x2), (0, x3), (0, x4)]) rfl dX12_leapOf_39 ?_
        refine st_iload rfl dX12_leapOf_40 ?_
        refine st_iload_n (i := 1) rfl rfl dX12_leapOf_42 ?_
        refine sr_icmp_ge 66 s1 (s8 h1) (by decide) dX12_leapOf_43 (fun h13 => ?_) (fun h13 => ?_)
        · have h13 : x1 ≤ x4 := by omega
          refine st_iload_n (i := 3) rfl rfl dX12_leapOf_66 ?_
          refine st_istore_n (i := 3) rfl (by decide) (lc' := [(2, 65), (0, x1), (0, x2), (0, x3), (0, x4)]) rfl dX12_leapOf_67 ?_
          refine st_iinc (y := (x4 + (-1))) (by decide) (i := 4) rfl rfl (lc' := [(2, 65), (0, x1), (0, x2), (0, x3), (0, (x4 + (-1)))]) rfl dX12_leapOf_68 ?_
          refine st_goto 12 (by decide) dX12_leapOf_71 ?_
          exact st_locals [(2, 65), (0, x1), (0, x2), (0, x3), (0, (x4 + (-1)))] ⟨Or.inr rfl, Or.inr rfl, Or.inr rfl, Or.inr rfl, Or.inr rfl, trivial⟩ (k5 h1 h8 h12 h13)
        · have h13 : x4 < x1 := by omega
          refine st_iload_n (i := 3) rfl rfl dX12_leapOf_46 ?_
          refine st_iconst dX12_leapOf_47 ?_
          refine sr_icmp_ne 66 (s16 h1 h8 h12 h13) ⟨by decide, by decide⟩ (by decide) dX12_leapOf_48 (fun h14 => ?_) (fun h14 => ?_)
          · have h14 : ¬ x3 = (-1) := by omega
            refine st_iload_n (i := 3) rfl rfl dX12_leapOf_66 ?_
            refine st_istore_n (i := 3) rfl (by decide) (lc' := [(2, 65), (0, x1), (0, x2), (0, x3), (0, x4)]) rfl dX12_leapOf_67 ?_
            refine st_iinc (y := (x4 + (-1))) (by decide) (i := 4) rfl rfl (lc' := [(2, 65), (0, x1), (0, x2), (0, x3), (0, (x4 + (-1)))]) rfl dX12_leapOf_68 ?_
            refine st_goto 12 (by decide) dX12_leapOf_71 ?_
            exact st_locals [(2, 65), (0, x1), (0, x2), (0, x3), (0, (x4 + (-1)))] ⟨Or.inr rfl, Or.inr rfl, Or.inr rfl, Or.inr rfl, Or.inr rfl, trivial⟩ (k6 h1 h8 h12 h13 h14)
          · have h14 : x3 = (-1) := by omega
            refine st_aload_n (i := 0) rfl (t := 0) rfl (by decide) dX12_leapOf_51 ?_
            refine st_iload_n (i := 1) rfl rfl dX12_leapOf_52 ?_
            refine st_iload rfl dX12_leapOf_53 ?_
            refine st_callV (kc2 := 0) (ks2 := 0) (av := [(0, x1), (0, x4)]) 65 11 mr_X12_300 ok_X12_areLike (c_X12_areLike mem x1 x4 ((s13 h1 h8)) ((s14 h1 h8)) ((s15 h1 h8))) rfl sh_65 ⟨_, rfl, rfl, by decide⟩ rfl rfl hd3 (Nat.le_refl 0) (Nat.le_refl 0) (Nat.le_of_ble_eq_true rfl) dX12_leapOf_55 (mQ.elim fun v3 m3 hp => ?_)
            obtain ⟨hpv, hpm⟩ := hp
            subst hpv
            have hpm := hpm.symm
            subst hpm
            refine so_ifeqB 66 (by decide) dX12_leapOf_58 (fun h15 => ?_) (fun h15 => ?_)
            · have h15 : ¬ (likeM (mem 79) (cueF (mem 80)) x1 x4) := h15
              refine st_iload_n (i := 3) rfl rfl dX12_leapOf_66 ?_
              refine st_istore_n (i := 3) rfl (by decide) (lc' := [(2, 65), (0, x1), (0, x2), (0, x3), (0, x4)]) rfl dX12_leapOf_67 ?_
              refine st_iinc (y := (x4 + (-1))) (by decide) (i := 4) rfl rfl (lc' := [(2, 65), (0, x1), (0, x2), (0, x3), (0, (x4 + (-1)))]) rfl dX12_leapOf_68 ?_
              refine st_goto 12 (by decide) dX12_leapOf_71 ?_
              exact st_locals [(2, 65), (0, x1), (0, x2), (0, x3), (0, (x4 + (-1)))] ⟨Or.inr rfl, Or.inr rfl, Or.inr rfl, Or.inr rfl, Or.inr rfl, trivial⟩ (k7 h1 h8 h12 h13 h14 h15)
            · have h15 : (likeM (mem 79) (cueF (mem 80)) x1 x4) := h15
              refine st_iload rfl dX12_leapOf_61 ?_
              refine st_goto 67 (by decide) dX12_leapOf_63 ?_
              refine st_istore_n (i := 3) rfl (by decide) (lc' := [(2, 65), (0, x1), (0, x2), (0, x4), (0, x4)]) rfl dX12_leapOf_67 ?_
              refine st_iinc (y := (x4 + (-1))) (by decide) (i := 4) rfl rfl (lc' := [(2, 65), (0, x1), (0, x2), (0, x4), (0, (x4 + (-1)))]) rfl dX12_leapOf_68 ?_
              refine st_goto 12 (by decide) dX12_leapOf_71 ?_
              exact st_locals [(2, 65), (0, x1), (0, x2), (0, x4), (0, (x4 + (-1)))] ⟨Or.inr rfl, Or.inr rfl, Or.inr rfl, Or.inr rfl, Or.inr rfl, trivial⟩ (k8 h1 h8 h12 h13 h14 h15)
      · have h12 : (likeM (mem 79) (cueF (mem 80)) x1 x4) := h12
        refine st_iload rfl dX12_leapOf_33 ?_
        refine st_goto 39 (by decide) dX12_leapOf_35 ?_
        refine st_istore_n (i := 2) rfl (by decide) (lc' := [(2, 65), (0, x1), (0, x4), (0, x3), (0, x4)]) rfl dX12_leapOf_39 ?_
        refine st_iload rfl dX12_leapOf_40 ?_
        refine st_iload_n (i := 1) rfl rfl dX12_leapOf_42 ?_
        refine sr_icmp_ge 66 s1 (s8 h1) (by decide) dX12_leapOf_43 (fun h16 => ?_) (fun h16 => ?_)
        · have h16 : x1 ≤ x4 := by omega
          refine st_iload_n (i := 3) rfl rfl dX12_leapOf_66 ?_
          refine st_istore_n (i := 3) rfl (by decide) (lc' := [(2, 65), (0, x1), (0, x4), (0, x3), (0, x4)]) rfl dX12_leapOf_67 ?_
          refine st_iinc (y := (x4 + (-1))) (by decide) (i := 4) rfl rfl (lc' := [(2, 65), (0, x1), (0, x4), (0, x3), (0, (x4 + (-1)))]) rfl dX12_leapOf_68 ?_
          refine st_goto 12 (by decide) dX12_leapOf_71 ?_
          exact st_locals [(2, 65), (0, x1), (0, x4), (0, x3), (0, (x4 + (-1)))] ⟨Or.inr rfl, Or.inr rfl, Or.inr rfl, Or.inr rfl, Or.inr rfl, trivial⟩ (k9 h1 h8 h12 h16)
        · have h16 : x4 < x1 := by omega
          refine st_iload_n (i := 3) rfl rfl dX12_leapOf_46 ?_
          refine st_iconst dX12_leapOf_47 ?_
          refine sr_icmp_ne 66 (s17 h1 h8 h12 h16) ⟨by decide, by decide⟩ (by decide) dX12_leapOf_48 (fun h17 => ?_) (fun h17 => ?_)
          · have h17 : ¬ x3 = (-1) := by omega
            refine st_iload_n (i := 3) rfl rfl dX12_leapOf_66 ?_
            refine st_istore_n (i := 3) rfl (by decide) (lc' := [(2, 65), (0, x1), (0, x4), (0, x3), (0, x4)]) rfl dX12_leapOf_67 ?_
            refine st_iinc (y := (x4 + (-1))) (by decide) (i := 4) rfl rfl (lc' := [(2, 65), (0, x1), (0, x4), (0, x3), (0, (x4 + (-1)))]) rfl dX12_leapOf_68 ?_
            refine st_goto 12 (by decide) dX12_leapOf_71 ?_
            exact st_locals [(2, 65), (0, x1), (0, x4), (0, x3), (0, (x4 + (-1)))] ⟨Or.inr rfl, Or.inr rfl, Or.inr rfl, Or.inr rfl, Or.inr rfl, trivial⟩ (k10 h1 h8 h12 h16 h17)
          · have h17 : x3 = (-1) := by omega
            refine st_aload_n (i := 0) rfl (t := 0) rfl (by decide) dX12_leapOf_51 ?_
            refine st_iload_n (i := 1) rfl rfl dX12_leapOf_52 ?_
            refine st_iload rfl dX12_leapOf_53 ?_
            refine st_callV (kc2 := 0) (ks2 := 0) (av := [(0, x1), (0, x4)]) 65 11 mr_X12_300 ok_X12_areLike (c_X12_areLike mem x1 x4 ((s13 h1 h8)) ((s14 h1 h8)) ((s15 h1 h8))) rfl sh_65 ⟨_, rfl, rfl, by decide⟩ rfl rfl hd3 (Nat.le_refl 0) (Nat.le_refl 0) (Nat.le_of_ble_eq_true rfl) dX12_leapOf_55 (mQ.elim fun v4 m4 hp => ?_)
            obtain ⟨hpv, hpm⟩ := hp
            subst hpv
            have hpm := hpm.symm
            subst hpm
            refine so_ifeqB 66 (by decide) dX12_leapOf_58 (fun h18 => ?_) (fun h18 => ?_)
            · have h18 : ¬ (likeM (mem 79) (cueF (mem 80)) x1 x4) := h18
              refine st_iload_n (i := 3) rfl rfl dX12_leapOf_66 ?_
              refine st_istore_n (i := 3) rfl (by decide) (lc' := [(2, 65), (0, x1), (0, x4), (0, x3), (0, x4)]) rfl dX12_leapOf_67 ?_
              refine st_iinc (y := (x4 + (-1))) (by decide) (i := 4) rfl rfl (lc' := [(2, 65), (0, x1), (0, x4), (0, x3), (0, (x4 + (-1)))]) rfl dX12_leapOf_68 ?_
              refine st_goto 12 (by decide) dX12_leapOf_71 ?_
              exact st_locals [(2, 65), (0, x1), (0, x4), (0, x3), (0, (x4 + (-1)))] ⟨Or.inr rfl, Or.inr rfl, Or.inr rfl, Or.inr rfl, Or.inr rfl, trivial⟩ (k11 h1 h8 h12 h16 h17 h18)
            · have h18 : (likeM (mem 79) (cueF (mem 80)) x1 x4) := h18
              refine st_iload rfl dX12_leapOf_61 ?_
              refine st_goto 67 (by decide) dX12_leapOf_63 ?_
              refine st_istore_n (i := 3) rfl (by decide) (lc' := [(2, 65), (0, x1), (0, x4), (0, x4), (0, x4)]) rfl dX12_leapOf_67 ?_
              refine st_iinc (y := (x4 + (-1))) (by decide) (i := 4) rfl rfl (lc' := [(2, 65), (0, x1), (0, x4), (0, x4), (0, (x4 + (-1)))]) rfl dX12_leapOf_68 ?_
              refine st_goto 12 (by decide) dX12_leapOf_71 ?_
              exact st_locals [(2, 65), (0, x1), (0, x4), (0, x4), (0, (x4 + (-1)))] ⟨Or.inr rfl, Or.inr rfl, Or.inr rfl, Or.inr rfl, Or.inr rfl, trivial⟩ (k12 h1 h8 h12 h16 h17 h18)
theorem c_X12_leapOf (mem : mmM) (x1 : Int) (hp : playM mem) (h1 : 0 ≤ x1 ∧ x1 < mem 65 27) : con 0 bX12_leapOf 3 [(2, 65), (0, x1)] mem (fun v m => v = leapM mem x1 ∧ m = mem) := by
  have hn := hp.1
  have hx := hp.2 x1 h1.1 (by omega)
  refine cn_X12_leapOf (bk_X12_leapOf_0 ?_)
  have key : ∀ (k : Nat), (k : Int) ≤ mem 65 27 → ∀ b a : Int, b = upFrom (fun i => decide (likeF (mem 65 27) (mem 79) (cueF (mem 80)) i x1)) (max (k : Int) (x1 + 1)) (mem 65 27 - max (k : Int) (x1 + 1)).toNat → (-1 ≤ a ∧ a < x1) →
    (if a = -1 then dnTo (fun i => decide (likeF (mem 65 27) (mem 79) (cueF (mem 80)) i x1)) (min (k : Int) x1).toNat else a) = aheadF (mem 65 27) (mem 79) (cueF (mem 80)) x1 →
    mmT bX12_leapOf 3 0 0 (mQ 0 (fun v m => v = leapM mem x1 ∧ m = mem)) 12 [(2, 65), (0, x1), (0, b), (0, a), (0, (k : Int) - 1)] [] mS mem := by
    intro k
    induction k with
    | zero =>
      intro hk b a hb ha1 ha
      have hb' : b = behindF (mem 65 27) (mem 79) (cueF (mem 80)) x1 := by
        rw [hb, show max ((0 : Nat) : Int) (x1 + 1) = x1 + 1 by omega]
        rfl
      have ha' : a = aheadF (mem 65 27) (mem 79) (cueF (mem 80)) x1 := by
        rw [← ha]
        split
        · rw [show (min ((0 : Nat) : Int) x1).toNat = 0 by omega]
          show a = -1
          assumption
        · rfl
      have q1 := aheadF_bnd (mem 65 27) (mem 79) (cueF (mem 80)) h1.1
      have q2 := behindF_bnd (mem 65 27) (mem 79) (cueF (mem 80)) h1.1 h1.2
      have q3 := upFrom_spec (fun i => decide (likeF (mem 65 27) (mem 79) (cueF (mem 80)) i x1)) (mem 65 27 - (x1 + 1)).toNat (x1 + 1) (by omega)
      have q4 : behindF (mem 65 27) (mem 79) (cueF (mem 80)) x1 = upFrom (fun i => decide (likeF (mem 65 27) (mem 79) (cueF (mem 80)) i x1)) (x1 + 1) (mem 65 27 - (x1 + 1)).toNat := rfl
      rw [← q4] at q3
      rw [← ha'] at q1
      rw [← hb'] at q2 q3
      have hl : leapM mem x1 = if mem 83 (mem 79 x1) = 0 then -1 else if mem 83 (mem 79 x1) = 1 then b else if mem 83 (mem 79 x1) = 2 then a else if a = -1 ∨ b = -1 then max a b else if x1 - a ≤ b - x1 then a else b := by
        rw [ha', hb']
        rfl
      rw [hl]
      refine bk_X12_leapOf_12 (fun g => by omega) (fun g => by omega) (fun g => by omega) (fun g => by omega) (fun g => by omega) (fun g => by omega) (fun g => by omega) (fun g => by omega) (fun g => by omega) (fun g => by omega) (fun g => by omega) (fun g => by omega) ?_ ?_ ?_ ?_ ?_ ?_ ?_ <;> (intros; refine ⟨?_, rfl⟩; repeat' split) <;> omega
    | succ k ih =>
      intro hk b a hb ha1 ha
      have e : (((k + 1 : Nat) : Int) - 1) = k := by omega
      rw [e]
      have q2 := upFrom_spec (fun i => decide (likeF (mem 65 27) (mem 79) (cueF (mem 80)) i x1)) (mem 65 27 - max ((k + 1 : Nat) : Int) (x1 + 1)).toNat (max ((k + 1 : Nat) : Int) (x1 + 1)) (by omega)
      rw [← hb] at q2
      have lk : likeM (mem 79) (cueF (mem 80)) x1 k ↔ likeF (mem 65 27) (mem 79) (cueF (mem 80)) k x1 := likeM_iff hp h1 ⟨by omega, by omega⟩
      have bSame : (k : Int) ≤ x1 → b = upFrom (fun i => decide (likeF (mem 65 27) (mem 79) (cueF (mem 80)) i x1)) (max (k : Int) (x1 + 1)) (mem 65 27 - max (k : Int) (x1 + 1)).toNat := by
        intro g
        rw [hb, show max ((k + 1 : Nat) : Int) (x1 + 1) = x1 + 1 by omega, show max (k : Int) (x1 + 1) = x1 + 1 by omega]
      have bStep : x1 < (k : Int) → upFrom (fun i => decide (likeF (mem 65 27) (mem 79) (cueF (mem 80)) i x1)) (max (k : Int) (x1 + 1)) (mem 65 27 - max (k : Int) (x1 + 1)).toNat = if decide (likeF (mem 65 27) (mem 79) (cueF (mem 80)) k x1) then (k : Int) else b := by
        intro g
        rw [hb, show max ((k + 1 : Nat) : Int) (x1 + 1) = (k : Int) + 1 by omega, show max (k : Int) (x1 + 1) = k by omega, show (mem 65 27 - (k : Int)).toNat = (mem 65 27 - ((k : Int) + 1)).toNat + 1 by omega]
        exact upFrom_succ _ _ _
      have aSame : x1 ≤ (k : Int) → (if a = -1 then dnTo (fun i => decide (likeF (mem 65 27) (mem 79) (cueF (mem 80)) i x1)) (min (k : Int) x1).toNat else a) = aheadF (mem 65 27) (mem 79) (cueF (mem 80)) x1 := by
        intro g
        rw [← ha, show min ((k + 1 : Nat) : Int) x1 = x1 by omega, show min (k : Int) x1 = x1 by omega]
      have aStep : (k : Int) < x1 → a = -1 → (if decide (likeF (mem 65 27) (mem 79) (cueF (mem 80)) k x1) then (k : Int) else dnTo (fun i => decide (likeF (mem 65 27) (mem 79) (cueF (mem 80)) i x1)) k) = aheadF (mem 65 27) (mem 79) (cueF (mem 80)) x1 := by
        intro g ga
        rw [← ha, if_pos ga, show (min ((k + 1 : Nat) : Int) x1).toNat = k + 1 by omega]
        exact (dnTo_succ (fun i => decide (likeF (mem 65 27) (mem 79) (cueF (mem 80)) i x1)) k).symm
      refine bk_X12_leapOf_12 (fun g g1 g2 => ih (by omega) b a (bSame g1) ha1 (aSame g2)) (fun g g1 g2 g3 => ih (by omega) b a (bSame g1) ha1 ?_) (fun g g1 g2 g3 g4 => ih (by omega) b a (bSame g1) ha1 ?_) (fun g g1 g2 g3 g4 => ih (by omega) b k (bSame g1) (by omega) ?_)
        (fun g g1 g2 g3 => ih (by omega) b a ?_ ha1 (aSame (by omega))) (fun g g1 g2 g3 => by omega) (fun g g1 g2 g3 => by omega) (fun g g1 g2 g3 => by omega) (fun g g1 g2 g3 => ih (by omega) k a ?_ ha1 (aSame (by omega))) (fun g g1 g2 g3 => by omega) (fun g g1 g2 g3 => by omega) (fun g g1 g2 g3 => by omega)
        (fun g => by omega) (fun g => by omega) (fun g => by omega) (fun g => by omega) (fun g => by omega) (fun g => by omega) (fun g => by omega)
      · rw [if_neg g3]
        rw [if_neg g3] at ha
        exact ha
      · have q := aStep g2 g3
        rw [if_neg (fun z => g4 (lk.mpr (of_decide_eq_true z)))] at q
        rw [if_pos g3, show (min (k : Int) x1).toNat = k by omega]
        exact q
      · have q := aStep g2 g3
        rw [if_pos (decide_eq_true (lk.mp g4))] at q
        rw [if_neg (by omega)]
        exact q
      · rw [bStep g1, if_neg (fun z => g2 (lk.mpr (of_decide_eq_true z)))]
      · rw [bStep g1, if_pos (decide_eq_true (lk.mp g2))]
  have := key (mem 65 27).toNat (by omega) (-1) (-1) ?_ (by omega) ?_
  · rw [show (((mem 65 27).toNat : Nat) : Int) = mem 65 27 by omega] at this
    exact this
  · rw [show (((mem 65 27).toNat : Nat) : Int) = mem 65 27 by omega, show max (mem 65 27) (x1 + 1) = mem 65 27 by omega, show (mem 65 27 - mem 65 27).toNat = 0 by omega]
    rfl
  · rw [if_pos rfl, show min (((mem 65 27).toNat : Nat) : Int) x1 = x1 by omega]
    rfl
theorem likesM_rng {mem : mmM} {s : Int} (hp : playM mem) (_ : 0 ≤ s ∧ s < mem 65 27) : R32 (likesF (mem 65 27) (mem 79) (cueF (mem 80)) s) := likesF_rng (by have := hp.1; omega) hp.1
theorem cn_X12_leap {d : Nat} {P : Int → mmM → Prop} {mem : mmM} {x1 : Int} (h : mmT bX12_leap d 0 0 (mQ 0 P) 0 [(2, 65), (0, x1)] [] mS mem) : con 0 bX12_leap d [(2, 65), (0, x1)] mem P := mmC_of [(2, 65), (0, x1)] ok_X12_leap.2.2.2.2 rfl (Nat.le_of_ble_eq_true rfl) h
theorem bk_X12_leap_0 {d : Nat} {P : Int → mmM → Prop} {mem : mmM} {x1 : Int}
  (q1 : ¬ (0 ≤ x1 ∧ x1 ≤ (mem 65 27) - 1) → P (-1000000) mem)
  (q2 : (0 ≤ x1 ∧ x1 ≤ (mem 65 27) - 1) → P (leapM mem x1) mem)
  (hd3 : 3 ≤ d := by omega)
  (hd4 : 4 ≤ d := by omega)
  (s1 : R32 x1 := by intros; first | omega | assumption | solve_by_elim)
  (s2 : R32 ((mem 65 27) - 1) := by intros; first | omega | assumption | solve_by_elim)
  (s3 : (0 ≤ x1 ∧ x1 ≤ (mem 65 27) - 1) → playM mem := by intros; first | omega | assumption | solve_by_elim)
  (s4 : (0 ≤ x1 ∧ x1 ≤ (mem 65 27) - 1) → 0 ≤ x1 ∧ x1 < (mem 65 27) := by intros; first | omega | assumption | solve_by_elim)
  : mmT bX12_leap d 0 0 (mQ 0 P) 0 [(2, 65), (0, x1)] [] mS mem := by
  refine st_aload_n (i := 0) rfl (t := 0) rfl (by decide) dX12_leap_0 ?_
  refine st_iload_n (i := 1) rfl rfl dX12_leap_1 ?_
  refine st_callV (kc2 := 0) (ks2 := 0) (av := [(0, x1)]) 65 11 mr_X12_317 ok_X12_isSpeech (c_X12_isSpeech mem x1 (s1) (s2)) rfl sh_65 ⟨_, rfl, rfl, by decide⟩ rfl rfl hd3 (Nat.le_refl 0) (Nat.le_refl 0) (Nat.le_of_ble_eq_true rfl) dX12_leap_2 (mQ.elim fun v1 m1 hp => ?_)
  obtain ⟨hpv, hpm⟩ := hp
  subst hpv
  have hpm := hpm.symm
  subst hpm
  refine so_ifeqB 16 (by decide) dX12_leap_5 (fun h1 => ?_) (fun h1 => ?_)
  · have h1 : ¬ (0 ≤ x1 ∧ x1 ≤ (mem 65 27) - 1) := h1
    refine st_ldcw cw_X12_329 dX12_leap_16 ?_
    exact st_ireturn rfl dX12_leap_19 (mQ.ret (q1 h1))
  · have h1 : (0 ≤ x1 ∧ x1 ≤ (mem 65 27) - 1) := h1
    refine st_aload_n (i := 0) rfl (t := 0) rfl (by decide) dX12_leap_8 ?_
    refine st_iload_n (i := 1) rfl rfl dX12_leap_9 ?_
    refine st_callV (kc2 := 0) (ks2 := 0) (av := [(0, x1)]) 65 11 mr_X12_326 ok_X12_leapOf (c_X12_leapOf mem x1 ((s3 h1)) ((s4 h1))) rfl sh_65 ⟨_, rfl, rfl, by decide⟩ rfl rfl hd4 (Nat.le_refl 0) (Nat.le_refl 0) (Nat.le_of_ble_eq_true rfl) dX12_leap_10 (mQ.elim fun v2 m2 hp => ?_)
    obtain ⟨hpv, hpm⟩ := hp
    subst hpv
    have hpm := hpm.symm
    subst hpm
    refine st_goto 19 (by decide) dX12_leap_13 ?_
    exact st_ireturn rfl dX12_leap_19 (mQ.ret (q2 h1))
theorem cn_X12_leapsTo {d : Nat} {P : Int → mmM → Prop} {mem : mmM} {x1 : Int} (h : mmT bX12_leapsTo d 0 0 (mQ 0 P) 0 [(2, 65), (0, x1), (9, 0), (9, 0)] [] mS mem) : con 0 bX12_leapsTo d [(2, 65), (0, x1)] mem P := mmC_of [(2, 65), (0, x1), (9, 0), (9, 0)] ok_X12_leapsTo.2.2.2.2 rfl (Nat.le_of_ble_eq_true rfl) h
theorem bk_X12_leapsTo_0 {d : Nat} {P : Int → mmM → Prop} {mem : mmM} {x1 : Int}
  (k1 : mmT bX12_leapsTo d 0 0 (mQ 0 P) 4 [(2, 65), (0, x1), (0, 0), (0, 0)] [] mS mem)
  : mmT bX12_leapsTo d 0 0 (mQ 0 P) 0 [(2, 65), (0, x1), (9, 0), (9, 0)] [] mS mem := by
  refine st_iconst dX12_leapsTo_0 ?_
  refine st_istore_n (i := 2) rfl (by decide) (lc' := [(2, 65), (0, x1), (0, 0), (9, 0)]) rfl dX12_leapsTo_1 ?_
  refine st_iconst dX12_leapsTo_2 ?_
  refine st_istore_n (i := 3) rfl (by decide) (lc' := [(2, 65), (0, x1), (0, 0), (0, 0)]) rfl dX12_leapsTo_3 ?_
  exact st_locals [(2, 65), (0, x1), (0, 0), (0, 0)] ⟨Or.inr rfl, Or.inr rfl, Or.inr rfl, Or.inr rfl, trivial⟩ k1
theorem bk_X12_leapsTo_4 {d : Nat} {P : Int → mmM → Prop} {mem : mmM} {x1 x2 x3 : Int}
  (k1 : x3 < (mem 65 27) → ¬ (leapM mem x3) = x1 → mmT bX12_leapsTo d 0 0 (mQ 0 P) 4 [(2, 65), (0, x1), (0, (or32 x2 0)), (0, (x3 + 1))] [] mS mem)
  (k2 : x3 < (mem 65 27) → (leapM mem x3) = x1 → mmT bX12_leapsTo d 0 0 (mQ 0 P) 4 [(2, 65), (0, x1), (0, (or32 x2 (shl32 1 x3))), (0, (x3 + 1))] [] mS mem)
  (q1 : (mem 65 27) ≤ x3 → P x2 mem)
  (hd4 : 4 ≤ d := by omega)
  (s1 : R32 x3 := by intros; first | omega | assumption | solve_by_elim)
  (s2 : x3 < (mem 65 27) → playM mem := by intros; first | omega | assumption | solve_by_elim)
  (s3 : x3 < (mem 65 27) → 0 ≤ x3 ∧ x3 < (mem 65 27) := by intros; first | omega | assumption | solve_by_elim)
  (s4 : x3 < (mem 65 27) → R32 x1 := by intros; first | omega | assumption | solve_by_elim)
  : mmT bX12_leapsTo d 0 0 (mQ 0 P) 4 [(2, 65), (0, x1), (0, x2), (0, x3)] [] mS mem := by
  refine st_iload_n (i := 3) rfl rfl dX12_leapsTo_4 ?_
  refine st_aload_n (i := 0) rfl (t := 0) rfl (by decide) dX12_leapsTo_5 ?_
  refine so_getI (v := (mem 65 27)) 65 27 fr_X12_268_11 rfl sh_65 rfl dX12_leapsTo_6 (fun r1 => ?_)
  refine sr_icmp_ge 37 s1 r1 (by decide) dX12_leapsTo_9 (fun h1 => ?_) (fun h1 => ?_)
  · have h1 : (mem 65 27) ≤ x3 := by omega
    refine st_iload_n (i := 2) rfl rfl dX12_leapsTo_37 ?_
    exact st_ireturn rfl dX12_leapsTo_38 (mQ.ret (q1 h1))
  · have h1 : x3 < (mem 65 27) := by omega
    refine st_iload_n (i := 2) rfl rfl dX12_leapsTo_12 ?_
    refine st_aload_n (i := 0) rfl (t := 0) rfl (by decide) dX12_leapsTo_13 ?_
    refine st_iload_n (i := 3) rfl rfl dX12_leapsTo_14 ?_
    refine st_callV (kc2 := 0) (ks2 := 0) (av := [(0, x3)]) 65 11 mr_X12_326 ok_X12_leapOf (c_X12_leapOf mem x3 ((s2 h1)) ((s3 h1))) rfl sh_65 ⟨_, rfl, rfl, by decide⟩ rfl rfl hd4 (Nat.le_refl 0) (Nat.le_refl 0) (Nat.le_of_ble_eq_true rfl) dX12_leapsTo_15 (mQ.elim fun v1 m1 hp => ?_)
    obtain ⟨hpv, hpm⟩ := hp
    subst hpv
    have hpm := hpm.symm
    subst hpm
    refine st_iload_n (i := 1) rfl rfl dX12_leapsTo_18 ?_
    refine sr_icmp_ne 28 (leapM_rng ((s2 h1)) ((s3 h1))) (s4 h1) (by decide) dX12_leapsTo_19 (fun h2 => ?_) (fun h2 => ?_)
    · have h2 : ¬ (leapM mem x3) = x1 := by omega
      refine st_iconst dX12_leapsTo_28 ?_
      refine st_ior dX12_leapsTo_29 ?_
      refine st_istore_n (i := 2) rfl (by decide) (lc' := [(2, 65), (0, x1), (0, (or32 x2 0)), (0, x3)]) rfl dX12_leapsTo_30 ?_
      refine st_iinc (y := (x3 + 1)) (by decide) (i := 3) rfl rfl (lc' := [(2, 65), (0, x1), (0, (or32 x2 0)), (0, (x3 + 1))]) rfl dX12_leapsTo_31 ?_
      refine st_goto 4 (by decide) dX12_leapsTo_34 ?_
      exact st_locals [(2, 65), (0, x1), (0, (or32 x2 0)), (0, (x3 + 1))] ⟨Or.inr rfl, Or.inr rfl, Or.inr rfl, Or.inr rfl, trivial⟩ (k1 h1 h2)
    · have h2 : (leapM mem x3) = x1 := by omega
      refine st_iconst dX12_leapsTo_22 ?_
      refine st_iload_n (i := 3) rfl rfl dX12_leapsTo_23 ?_
      refine st_ishl dX12_leapsTo_24 ?_
      refine st_goto 29 (by decide) dX12_leapsTo_25 ?_
      refine st_ior dX12_leapsTo_29 ?_
      refine st_istore_n (i := 2) rfl (by decide) (lc' := [(2, 65), (0, x1), (0, (or32 x2 (shl32 1 x3))), (0, x3)]) rfl dX12_leapsTo_30 ?_
      refine st_iinc (y := (x3 + 1)) (by decide) (i := 3) rfl rfl (lc' := [(2, 65), (0, x1), (0, (or32 x2 (shl32 1 x3))), (0, (x3 + 1))]) rfl dX12_leapsTo_31 ?_
      refine st_goto 4 (by decide) dX12_leapsTo_34 ?_
      exact st_locals [(2, 65), (0, x1), (0, (or32 x2 (shl32 1 x3))), (0, (x3 + 1))] ⟨Or.inr rfl, Or.inr rfl, Or.inr rfl, Or.inr rfl, trivial⟩ (k2 h1 h2)
theorem cn_X12_stops {d : Nat} {P : Int → mmM → Prop} {mem : mmM} (h : mmT bX12_stops d 0 0 (mQ 0 P) 0 [(2, 65)] [] mS mem) : con 0 bX12_stops d [(2, 65)] mem P := mmC_of [(2, 65)] ok_X12_stops.2.2.2.2 rfl (Nat.le_of_ble_eq_true rfl) h
theorem bk_X12_stops_0 {d : Nat} {d1 : Nat} {P1 : Int → mmM → Prop} {P : Int → mmM → Prop} {mem : mmM}
  (c1 : ¬ (mem 65 27) = 0 → con 0 bX12_leapsTo d1 [(2, 65), (0, (-1))] mem P1)
  (q1 : ¬ (mem 65 27) = 0 → ∀ (v1 : Int), ∀ (m1 : mmM), P1 v1 m1 → P v1 m1)
  (q2 : (mem 65 27) = 0 → P (-1) mem)
  (hd_d1 : d1 + 1 ≤ d := by omega)
  : mmT bX12_stops d 0 0 (mQ 0 P) 0 [(2, 65)] [] mS mem := by
  refine st_aload_n (i := 0) rfl (t := 0) rfl (by decide) dX12_stops_0 ?_
  refine so_getI (v := (mem 65 27)) 65 27 fr_X12_268_11 rfl sh_65 rfl dX12_stops_1 (fun r1 => ?_)
  refine sr_if_ne 11 r1 (by decide) dX12_stops_4 (fun h1 => ?_) (fun h1 => ?_)
  · have h1 : ¬ (mem 65 27) = 0 := by omega
    refine st_aload_n (i := 0) rfl (t := 0) rfl (by decide) dX12_stops_11 ?_
    refine st_iconst dX12_stops_12 ?_
    refine st_callV (kc2 := 0) (ks2 := 0) (av := [(0, (-1))]) 65 11 mr_X12_397 ok_X12_leapsTo (c1 h1) rfl sh_65 ⟨_, rfl, rfl, by decide⟩ rfl rfl hd_d1 (Nat.le_refl 0) (Nat.le_refl 0) (Nat.le_of_ble_eq_true rfl) dX12_stops_13 (mQ.elim fun v1 m1 p1 => ?_)
    exact st_ireturn rfl dX12_stops_16 (mQ.ret (q1 h1 v1 m1 p1))
  · have h1 : (mem 65 27) = 0 := by omega
    refine st_iconst dX12_stops_7 ?_
    refine st_goto 16 (by decide) dX12_stops_8 ?_
    exact st_ireturn rfl dX12_stops_16 (mQ.ret (q2 h1))
theorem cn_X12_from {d : Nat} {P : Int → mmM → Prop} {mem : mmM} {x1 : Int} (h : mmT bX12_from d 0 0 (mQ 0 P) 0 [(2, 65), (0, x1)] [] mS mem) : con 0 bX12_from d [(2, 65), (0, x1)] mem P := mmC_of [(2, 65), (0, x1)] ok_X12_from.2.2.2.2 rfl (Nat.le_of_ble_eq_true rfl) h
theorem bk_X12_from_0 {d : Nat} {d1 : Nat} {P1 : Int → mmM → Prop} {P : Int → mmM → Prop} {mem : mmM} {x1 : Int}
  (c1 : (0 ≤ x1 ∧ x1 ≤ (mem 65 27) - 1) → con 0 bX12_leapsTo d1 [(2, 65), (0, x1)] mem P1)
  (q1 : ¬ (0 ≤ x1 ∧ x1 ≤ (mem 65 27) - 1) → P (-1) mem)
  (q2 : (0 ≤ x1 ∧ x1 ≤ (mem 65 27) - 1) → ∀ (v2 : Int), ∀ (m2 : mmM), P1 v2 m2 → P v2 m2)
  (hd_d1 : d1 + 1 ≤ d := by omega)
  (hd3 : 3 ≤ d := by omega)
  (s1 : R32 x1 := by intros; first | omega | assumption | solve_by_elim)
  (s2 : R32 ((mem 65 27) - 1) := by intros; first | omega | assumption | solve_by_elim)
  : mmT bX12_from d 0 0 (mQ 0 P) 0 [(2, 65), (0, x1)] [] mS mem := by
  refine st_aload_n (i := 0) rfl (t := 0) rfl (by decide) dX12_from_0 ?_
  refine st_iload_n (i := 1) rfl rfl dX12_from_1 ?_
  refine st_callV (kc2 := 0) (ks2 := 0) (av := [(0, x1)]) 65 11 mr_X12_317 ok_X12_isSpeech (c_X12_isSpeech mem x1 (s1) (s2)) rfl sh_65 ⟨_, rfl, rfl, by decide⟩ rfl rfl hd3 (Nat.le_refl 0) (Nat.le_refl 0) (Nat.le_of_ble_eq_true rfl) dX12_from_2 (mQ.elim fun v1 m1 hp => ?_)
  obtain ⟨hpv, hpm⟩ := hp
  subst hpv
  have hpm := hpm.symm
  subst hpm
  refine so_ifeqB 16 (by decide) dX12_from_5 (fun h1 => ?_) (fun h1 => ?_)
  · have h1 : ¬ (0 ≤ x1 ∧ x1 ≤ (mem 65 27) - 1) := h1
    refine st_iconst dX12_from_16 ?_
    exact st_ireturn rfl dX12_from_17 (mQ.ret (q1 h1))
  · have h1 : (0 ≤ x1 ∧ x1 ≤ (mem 65 27) - 1) := h1
    refine st_aload_n (i := 0) rfl (t := 0) rfl (by decide) dX12_from_8 ?_
    refine st_iload_n (i := 1) rfl rfl dX12_from_9 ?_
    refine st_callV (kc2 := 0) (ks2 := 0) (av := [(0, x1)]) 65 11 mr_X12_397 ok_X12_leapsTo (c1 h1) rfl sh_65 ⟨_, rfl, rfl, by decide⟩ rfl rfl hd_d1 (Nat.le_refl 0) (Nat.le_refl 0) (Nat.le_of_ble_eq_true rfl) dX12_from_10 (mQ.elim fun v2 m2 p1 => ?_)
    refine st_goto 17 (by decide) dX12_from_13 ?_
    exact st_ireturn rfl dX12_from_17 (mQ.ret (q2 h1 v2 m2 p1))
theorem c_X12_leap (mem : mmM) (x1 : Int) (h1 : R32 x1) (hp : playM mem) : con 0 bX12_leap 4 [(2, 65), (0, x1)] mem (fun v m => v = (if 0 ≤ x1 ∧ x1 < mem 65 27 then leapM mem x1 else -1000000) ∧ m = mem) := by
  have hn := hp.1
  refine cn_X12_leap (bk_X12_leap_0 (fun g => ⟨?_, rfl⟩) (fun g => ⟨?_, rfl⟩))
  · rw [if_neg (by omega)]
  · rw [if_pos (by omega)]
theorem c_X12_leapsTo (mem : mmM) (x1 : Int) (h1 : R32 x1) (hp : playM mem) : con 0 bX12_leapsTo 4 [(2, 65), (0, x1)] mem (fun v m => v = wltF (mem 65 27) (leapM mem) x1 ∧ m = mem) := by
  have hn := hp.1
  refine cn_X12_leapsTo (bk_X12_leapsTo_0 ?_)
  refine loop_up (n := mem 65 27) (fun i => ∀ acc, acc = foldTo (fun acc i => or32 acc (if leapM mem i = x1 then shl32 1 i else 0)) 0 i.toNat → mmT bX12_leapsTo 4 0 0 (mQ 0 (fun v m => v = wltF (mem 65 27) (leapM mem) x1 ∧ m = mem)) 4 [(2, 65), (0, x1), (0, acc), (0, i)] [] mS mem) (fun i h0 h1 ih acc ha => ?_) 0 (by omega) (by omega) 0 rfl
  refine bk_X12_leapsTo_4 (fun g g2 => ih g _ ?_) (fun g g2 => ih g _ ?_) (fun g => ⟨?_, rfl⟩)
  · rw [foldTo_step _ _ h0, ← ha, if_neg g2]
  · rw [foldTo_step _ _ h0, ← ha, if_pos g2]
  · rw [ha, show i = mem 65 27 by omega]
    rfl
theorem foldTo_inv {α : Type} {g : α → Int → α} {z : α} {n : Nat} (P : Int → α → Prop) (h0 : P 0 z) (hs : ∀ (i : Int) a, 0 ≤ i → i < n → P i a → P (i + 1) (g a i)) : P n (foldTo g z n) := by
  induction n with
  | zero => exact h0
  | succ n ih => exact hs n _ (by omega) (by omega) (ih (fun i a h1 h2 => hs i a h1 (by omega)))
theorem loopF_spec (n : Int) (to : Int → Int) (hn : 0 ≤ n) : ((loopF n to).2 = -1 ∧ (loopF n to).1 = -1) ∨ ((0 ≤ (loopF n to).2 ∧ (loopF n to).2 < n) ∧ (loopF n to).1 = (loopF n to).2 - to (loopF n to).2 ∧ 0 < (loopF n to).1 ∧ ¬ to (loopF n to).2 = -1) := by
  have := foldTo_inv (g := fun (p : Int × Int) i => if ¬ to i = -1 ∧ to i < i ∧ (p.2 = -1 ∨ i - to i < p.1) then (i - to i, i) else p) (z := (-1, -1)) (n := n.toNat) (fun i p => (p.2 = -1 ∧ p.1 = -1) ∨ ((0 ≤ p.2 ∧ p.2 < i) ∧ p.1 = p.2 - to p.2 ∧ 0 < p.1 ∧ ¬ to p.2 = -1)) (Or.inl ⟨rfl, rfl⟩) (fun i a g0 g1 ha => by
    show ((if _ then _ else _ : Int × Int).2 = -1 ∧ _) ∨ _
    split
    · exact Or.inr ⟨⟨g0, by show i < i + 1; omega⟩, rfl, by show 0 < i - to i; omega, by rename_i g; exact g.1⟩
    · rcases ha with ha | ha
      · exact Or.inl ha
      · exact Or.inr ⟨⟨ha.1.1, by omega⟩, ha.2⟩)
  rw [show ((n.toNat : Nat) : Int) = n by omega] at this
  exact this
theorem holeF_spec (n : Int) (to : Int → Int) (hn : 0 ≤ n) : ((holeF n to).2 = -1 ∧ (holeF n to).1 = -1) ∨ ((0 ≤ (holeF n to).2 ∧ (holeF n to).2 < n) ∧ (holeF n to).1 = to (holeF n to).2 - (holeF n to).2 ∧ 0 < (holeF n to).1) := by
  have := foldTo_inv (g := fun (p : Int × Int) i => if i < to i ∧ p.1 < to i - i then (to i - i, i) else p) (z := (-1, -1)) (n := n.toNat) (fun i p => (p.2 = -1 ∧ p.1 = -1) ∨ ((0 ≤ p.2 ∧ p.2 < i) ∧ p.1 = to p.2 - p.2 ∧ 0 < p.1)) (Or.inl ⟨rfl, rfl⟩) (fun i a g0 g1 ha => by
    show ((if _ then _ else _ : Int × Int).2 = -1 ∧ _) ∨ _
    split
    · exact Or.inr ⟨⟨g0, by show i < i + 1; omega⟩, rfl, by show 0 < to i - i; omega⟩
    · rcases ha with ha | ha
      · exact Or.inl ha
      · exact Or.inr ⟨⟨ha.1.1, by omega⟩, ha.2⟩)
  rw [show ((n.toNat : Nat) : Int) = n by omega] at this
  exact this
theorem c_X12_stops (mem : mmM) (hp : playM mem) : con 0 bX12_stops 5 [(2, 65)] mem (fun v m => v = (if mem 65 27 = 0 then -1 else wltF (mem 65 27) (leapM mem) (-1)) ∧ m = mem) := by
  have hn := hp.1
  refine cn_X12_stops (bk_X12_stops_0 (fun g => c_X12_leapsTo mem (-1) (by omega) hp) (fun g v m q => ?_) (fun g => ⟨?_, rfl⟩))
  · rw [if_neg g]
    exact q
  · rw [if_pos g]
theorem c_X12_from (mem : mmM) (x1 : Int) (h1 : R32 x1) (hp : playM mem) : con 0 bX12_from 5 [(2, 65), (0, x1)] mem (fun v m => v = (if 0 ≤ x1 ∧ x1 < mem 65 27 then wltF (mem 65 27) (leapM mem) x1 else -1) ∧ m = mem) := by
  have hn := hp.1
  refine cn_X12_from (bk_X12_from_0 (fun g => c_X12_leapsTo mem x1 h1 hp) (fun g => ⟨?_, rfl⟩) (fun g v m q => ?_))
  · rw [if_neg (by omega)]
  · rw [if_pos (by omega)]
    exact q
theorem cn_X12_leapBy {d : Nat} {P : Int → mmM → Prop} {mem : mmM} {x1 : Int} (h : mmT bX12_leapBy d 0 0 (mQ 0 P) 0 [(2, 65), (0, x1), (9, 0), (9, 0), (9, 0), (9, 0), (9, 0)] [] mS mem) : con 0 bX12_leapBy d [(2, 65), (0, x1)] mem P := mmC_of [(2, 65), (0, x1), (9, 0), (9, 0), (9, 0), (9, 0), (9, 0)] ok_X12_leapBy.2.2.2.2 rfl (Nat.le_of_ble_eq_true rfl) h
theorem bk_X12_leapBy_0 {d : Nat} {P : Int → mmM → Prop} {mem : mmM} {x1 : Int}
  (k1 : mmT bX12_leapBy d 0 0 (mQ 0 P) 7 [(2, 65), (0, x1), (0, (-1)), (0, 0), (0, 0), (9, 0), (9, 0)] [] mS mem)
  : mmT bX12_leapBy d 0 0 (mQ 0 P) 0 [(2, 65), (0, x1), (9, 0), (9, 0), (9, 0), (9, 0), (9, 0)] [] mS mem := by
  refine st_iconst dX12_leapBy_0 ?_
  refine st_istore_n (i := 2) rfl (by decide) (lc' := [(2, 65), (0, x1), (0, (-1)), (9, 0), (9, 0), (9, 0), (9, 0)]) rfl dX12_leapBy_1 ?_
  refine st_iconst dX12_leapBy_2 ?_
  refine st_istore_n (i := 3) rfl (by decide) (lc' := [(2, 65), (0, x1), (0, (-1)), (0, 0), (9, 0), (9, 0), (9, 0)]) rfl dX12_leapBy_3 ?_
  refine st_iconst dX12_leapBy_4 ?_
  refine st_istore (by decide) (lc' := [(2, 65), (0, x1), (0, (-1)), (0, 0), (0, 0), (9, 0), (9, 0)]) rfl dX12_leapBy_5 ?_
  exact st_locals [(2, 65), (0, x1), (0, (-1)), (0, 0), (0, 0), (9, 0), (9, 0)] ⟨Or.inr rfl, Or.inr rfl, Or.inr rfl, Or.inr rfl, Or.inr rfl, Or.inl rfl, Or.inl rfl, trivial⟩ k1
theorem bk_X12_leapBy_7 {d : Nat} {P : Int → mmM → Prop} {mem : mmM} {x1 x2 x3 x4 : Int}
  (k1 : x4 < (mem 65 27) → ¬ (leapM mem x4) = (-1) → x1 = 0 → ((leapM mem x4) - x4) ≤ 0 → mmT bX12_leapBy d 0 0 (mQ 0 P) 7 [(2, 65), (0, x1), (0, x2), (0, x3), (0, (x4 + 1)), (9, 0), (9, 0)] [] mS mem)
  (k2 : x4 < (mem 65 27) → ¬ (leapM mem x4) = (-1) → x1 = 0 → 0 < ((leapM mem x4) - x4) → x2 = (-1) → mmT bX12_leapBy d 0 0 (mQ 0 P) 7 [(2, 65), (0, x1), (0, x4), (0, ((leapM mem x4) - x4)), (0, (x4 + 1)), (9, 0), (9, 0)] [] mS mem)
  (k3 : x4 < (mem 65 27) → ¬ (leapM mem x4) = (-1) → x1 = 0 → 0 < ((leapM mem x4) - x4) → ¬ x2 = (-1) → x1 = 0 → ((leapM mem x4) - x4) ≤ x3 → mmT bX12_leapBy d 0 0 (mQ 0 P) 7 [(2, 65), (0, x1), (0, x2), (0, x3), (0, (x4 + 1)), (9, 0), (9, 0)] [] mS mem)
  (k4 : x4 < (mem 65 27) → ¬ (leapM mem x4) = (-1) → x1 = 0 → 0 < ((leapM mem x4) - x4) → ¬ x2 = (-1) → x1 = 0 → x3 < ((leapM mem x4) - x4) → mmT bX12_leapBy d 0 0 (mQ 0 P) 7 [(2, 65), (0, x1), (0, x4), (0, ((leapM mem x4) - x4)), (0, (x4 + 1)), (9, 0), (9, 0)] [] mS mem)
  (k5 : x4 < (mem 65 27) → ¬ (leapM mem x4) = (-1) → x1 = 0 → 0 < ((leapM mem x4) - x4) → ¬ x2 = (-1) → ¬ x1 = 0 → x3 ≤ ((leapM mem x4) - x4) → mmT bX12_leapBy d 0 0 (mQ 0 P) 7 [(2, 65), (0, x1), (0, x2), (0, x3), (0, (x4 + 1)), (9, 0), (9, 0)] [] mS mem)
  (k6 : x4 < (mem 65 27) → ¬ (leapM mem x4) = (-1) → x1 = 0 → 0 < ((leapM mem x4) - x4) → ¬ x2 = (-1) → ¬ x1 = 0 → ((leapM mem x4) - x4) < x3 → mmT bX12_leapBy d 0 0 (mQ 0 P) 7 [(2, 65), (0, x1), (0, x4), (0, ((leapM mem x4) - x4)), (0, (x4 + 1)), (9, 0), (9, 0)] [] mS mem)
  (k7 : x4 < (mem 65 27) → ¬ (leapM mem x4) = (-1) → ¬ x1 = 0 → (x4 - (leapM mem x4)) ≤ 0 → mmT bX12_leapBy d 0 0 (mQ 0 P) 7 [(2, 65), (0, x1), (0, x2), (0, x3), (0, (x4 + 1)), (9, 0), (9, 0)] [] mS mem)
  (k8 : x4 < (mem 65 27) → ¬ (leapM mem x4) = (-1) → ¬ x1 = 0 → 0 < (x4 - (leapM mem x4)) → x2 = (-1) → mmT bX12_leapBy d 0 0 (mQ 0 P) 7 [(2, 65), (0, x1), (0, x4), (0, (x4 - (leapM mem x4))), (0, (x4 + 1)), (9, 0), (9, 0)] [] mS mem)
  (k9 : x4 < (mem 65 27) → ¬ (leapM mem x4) = (-1) → ¬ x1 = 0 → 0 < (x4 - (leapM mem x4)) → ¬ x2 = (-1) → x1 = 0 → (x4 - (leapM mem x4)) ≤ x3 → mmT bX12_leapBy d 0 0 (mQ 0 P) 7 [(2, 65), (0, x1), (0, x2), (0, x3), (0, (x4 + 1)), (9, 0), (9, 0)] [] mS mem)
  (k10 : x4 < (mem 65 27) → ¬ (leapM mem x4) = (-1) → ¬ x1 = 0 → 0 < (x4 - (leapM mem x4)) → ¬ x2 = (-1) → x1 = 0 → x3 < (x4 - (leapM mem x4)) → mmT bX12_leapBy d 0 0 (mQ 0 P) 7 [(2, 65), (0, x1), (0, x4), (0, (x4 - (leapM mem x4))), (0, (x4 + 1)), (9, 0), (9, 0)] [] mS mem)
  (k11 : x4 < (mem 65 27) → ¬ (leapM mem x4) = (-1) → ¬ x1 = 0 → 0 < (x4 - (leapM mem x4)) → ¬ x2 = (-1) → ¬ x1 = 0 → x3 ≤ (x4 - (leapM mem x4)) → mmT bX12_leapBy d 0 0 (mQ 0 P) 7 [(2, 65), (0, x1), (0, x2), (0, x3), (0, (x4 + 1)), (9, 0), (9, 0)] [] mS mem)
  (k12 : x4 < (mem 65 27) → ¬ (leapM mem x4) = (-1) → ¬ x1 = 0 → 0 < (x4 - (leapM mem x4)) → ¬ x2 = (-1) → ¬ x1 = 0 → (x4 - (leapM mem x4)) < x3 → mmT bX12_leapBy d 0 0 (mQ 0 P) 7 [(2, 65), (0, x1), (0, x4), (0, (x4 - (leapM mem x4))), (0, (x4 + 1)), (9, 0), (9, 0)] [] mS mem)
  (k13 : x4 < (mem 65 27) → (leapM mem x4) = (-1) → mmT bX12_leapBy d 0 0 (mQ 0 P) 7 [(2, 65), (0, x1), (0, x2), (0, x3), (0, (x4 + 1)), (9, 0), (9, 0)] [] mS mem)
  (q1 : (mem 65 27) ≤ x4 → P x2 mem)
  (hd4 : 4 ≤ d := by omega)
  (s1 : R32 x4 := by intros; first | omega | assumption | solve_by_elim)
  (s2 : x4 < (mem 65 27) → playM mem := by intros; first | omega | assumption | solve_by_elim)
  (s3 : x4 < (mem 65 27) → 0 ≤ x4 ∧ x4 < (mem 65 27) := by intros; first | omega | assumption | solve_by_elim)
  (s4 : x4 < (mem 65 27) → ¬ (leapM mem x4) = (-1) → R32 x1 := by intros; first | omega | assumption | solve_by_elim)
  (s5 : x4 < (mem 65 27) → ¬ (leapM mem x4) = (-1) → x1 = 0 → R32 ((leapM mem x4) - x4) := by intros; first | omega | assumption | solve_by_elim)
  (s6 : x4 < (mem 65 27) → ¬ (leapM mem x4) = (-1) → x1 = 0 → 0 < ((leapM mem x4) - x4) → R32 x2 := by intros; first | omega | assumption | solve_by_elim)
  (s7 : x4 < (mem 65 27) → ¬ (leapM mem x4) = (-1) → x1 = 0 → 0 < ((leapM mem x4) - x4) → ¬ x2 = (-1) → x1 = 0 → R32 x3 := by intros; first | omega | assumption | solve_by_elim)
  (s8 : x4 < (mem 65 27) → ¬ (leapM mem x4) = (-1) → x1 = 0 → 0 < ((leapM mem x4) - x4) → ¬ x2 = (-1) → ¬ x1 = 0 → R32 x3 := by intros; first | omega | assumption | solve_by_elim)
  (s9 : x4 < (mem 65 27) → ¬ (leapM mem x4) = (-1) → ¬ x1 = 0 → R32 (x4 - (leapM mem x4)) := by intros; first | omega | assumption | solve_by_elim)
  (s10 : x4 < (mem 65 27) → ¬ (leapM mem x4) = (-1) → ¬ x1 = 0 → 0 < (x4 - (leapM mem x4)) → R32 x2 := by intros; first | omega | assumption | solve_by_elim)
  (s11 : x4 < (mem 65 27) → ¬ (leapM mem x4) = (-1) → ¬ x1 = 0 → 0 < (x4 - (leapM mem x4)) → ¬ x2 = (-1) → x1 = 0 → R32 x3 := by intros; first | omega | assumption | solve_by_elim)
  (s12 : x4 < (mem 65 27) → ¬ (leapM mem x4) = (-1) → ¬ x1 = 0 → 0 < (x4 - (leapM mem x4)) → ¬ x2 = (-1) → ¬ x1 = 0 → R32 x3 := by intros; first | omega | assumption | solve_by_elim)
  : mmT bX12_leapBy d 0 0 (mQ 0 P) 7 [(2, 65), (0, x1), (0, x2), (0, x3), (0, x4), (9, 0), (9, 0)] [] mS mem := by
  refine st_iload rfl dX12_leapBy_7 ?_
  refine st_aload_n (i := 0) rfl (t := 0) rfl (by decide) dX12_leapBy_9 ?_
  refine so_getI (v := (mem 65 27)) 65 27 fr_X12_268_11 rfl sh_65 rfl dX12_leapBy_10 (fun r1 => ?_)
  refine sr_icmp_ge 94 s1 r1 (by decide) dX12_leapBy_13 (fun h1 => ?_) (fun h1 => ?_)
  · have h1 : (mem 65 27) ≤ x4 := by omega
    refine st_iload_n (i := 2) rfl rfl dX12_leapBy_94 ?_
    exact st_ireturn rfl dX12_leapBy_95 (mQ.ret (q1 h1))
  · have h1 : x4 < (mem 65 27) := by omega
    refine st_aload_n (i := 0) rfl (t := 0) rfl (by decide) dX12_leapBy_16 ?_
    refine st_iload rfl dX12_leapBy_17 ?_
    refine st_callV (kc2 := 0) (ks2 := 0) (av := [(0, x4)]) 65 11 mr_X12_326 ok_X12_leapOf (c_X12_leapOf mem x4 ((s2 h1)) ((s3 h1))) rfl sh_65 ⟨_, rfl, rfl, by decide⟩ rfl rfl hd4 (Nat.le_refl 0) (Nat.le_refl 0) (Nat.le_of_ble_eq_true rfl) dX12_leapBy_19 (mQ.elim fun v1 m1 hp => ?_)
    obtain ⟨hpv, hpm⟩ := hp
    subst hpv
    have hpm := hpm.symm
    subst hpm
    refine st_istore (by decide) (lc' := [(2, 65), (0, x1), (0, x2), (0, x3), (0, x4), (0, (leapM mem x4)), (9, 0)]) rfl dX12_leapBy_22 ?_
    refine st_iload rfl dX12_leapBy_24 ?_
    refine st_iconst dX12_leapBy_26 ?_
    refine sr_icmp_ne 34 (leapM_rng ((s2 h1)) ((s3 h1))) ⟨by decide, by decide⟩ (by decide) dX12_leapBy_27 (fun h2 => ?_) (fun h2 => ?_)
    · have h2 : ¬ (leapM mem x4) = (-1) := by omega
      refine st_iload_n (i := 1) rfl rfl dX12_leapBy_34 ?_
      refine sr_if_eq 46 (s4 h1 h2) (by decide) dX12_leapBy_35 (fun h3 => ?_) (fun h3 => ?_)
      · have h3 : x1 = 0 := by omega
        refine st_iload rfl dX12_leapBy_46 ?_
        refine st_iload rfl dX12_leapBy_48 ?_
        refine st_isub dX12_leapBy_50 ?_
        refine st_istore (by decide) (lc' := [(2, 65), (0, x1), (0, x2), (0, x3), (0, x4), (0, (leapM mem x4)), (0, ((leapM mem x4) - x4))]) rfl dX12_leapBy_51 ?_
        refine st_iload rfl dX12_leapBy_53 ?_
        refine sr_if_le 88 (s5 h1 h2 h3) (by decide) dX12_leapBy_55 (fun h4 => ?_) (fun h4 => ?_)
        · have h4 : ((leapM mem x4) - x4) ≤ 0 := by omega
          refine st_iinc (y := (x4 + 1)) (by decide) (i := 4) rfl rfl (lc' := [(2, 65), (0, x1), (0, x2), (0, x3), (0, (x4 + 1)), (0, (leapM mem x4)), (0, ((leapM mem x4) - x4))]) rfl dX12_leapBy_88 ?_
          refine st_goto 7 (by decide) dX12_leapBy_91 ?_
          exact st_locals [(2, 65), (0, x1), (0, x2), (0, x3), (0, (x4 + 1)), (9, 0), (9, 0)] ⟨Or.inr rfl, Or.inr rfl, Or.inr rfl, Or.inr rfl, Or.inr rfl, Or.inl rfl, Or.inl rfl, trivial⟩ (k1 h1 h2 h3 h4)
        · have h4 : 0 < ((leapM mem x4) - x4) := by omega
          refine st_iload_n (i := 2) rfl rfl dX12_leapBy_58 ?_
          refine st_iconst dX12_leapBy_59 ?_
          refine sr_icmp_eq 82 (s6 h1 h2 h3 h4) ⟨by decide, by decide⟩ (by decide) dX12_leapBy_60 (fun h5 => ?_) (fun h5 => ?_)
          · have h5 : x2 = (-1) := by omega
            refine st_iload rfl dX12_leapBy_82 ?_
            refine st_istore_n (i := 2) rfl (by decide) (lc' := [(2, 65), (0, x1), (0, x4), (0, x3), (0, x4), (0, (leapM mem x4)), (0, ((leapM mem x4) - x4))]) rfl dX12_leapBy_84 ?_
            refine st_iload rfl dX12_leapBy_85 ?_
            refine st_istore_n (i := 3) rfl (by decide) (lc' := [(2, 65), (0, x1), (0, x4), (0, ((leapM mem x4) - x4)), (0, x4), (0, (leapM mem x4)), (0, ((leapM mem x4) - x4))]) rfl dX12_leapBy_87 ?_
            refine st_iinc (y := (x4 + 1)) (by decide) (i := 4) rfl rfl (lc' := [(2, 65), (0, x1), (0, x4), (0, ((leapM mem x4) - x4)), (0, (x4 + 1)), (0, (leapM mem x4)), (0, ((leapM mem x4) - x4))]) rfl dX12_leapBy_88 ?_
            refine st_goto 7 (by decide) dX12_leapBy_91 ?_
            exact st_locals [(2, 65), (0, x1), (0, x4), (0, ((leapM mem x4) - x4)), (0, (x4 + 1)), (9, 0), (9, 0)] ⟨Or.inr rfl, Or.inr rfl, Or.inr rfl, Or.inr rfl, Or.inr rfl, Or.inl rfl, Or.inl rfl, trivial⟩ (k2 h1 h2 h3 h4 h5)
          · have h5 : ¬ x2 = (-1) := by omega
            refine st_iload_n (i := 1) rfl rfl dX12_leapBy_63 ?_
            refine sr_if_eq 76 (s4 h1 h2) (by decide) dX12_leapBy_64 (fun h6 => ?_) (fun h6 => ?_)
            · have h6 : x1 = 0 := by omega
              refine st_iload rfl dX12_leapBy_76 ?_
              refine st_iload_n (i := 3) rfl rfl dX12_leapBy_78 ?_
              refine sr_icmp_le 88 (s5 h1 h2 h3) (s7 h1 h2 h3 h4 h5 h6) (by decide) dX12_leapBy_79 (fun h7 => ?_) (fun h7 => ?_)
              · have h7 : ((leapM mem x4) - x4) ≤ x3 := by omega
                refine st_iinc (y := (x4 + 1)) (by decide) (i := 4) rfl rfl (lc' := [(2, 65), (0, x1), (0, x2), (0, x3), (0, (x4 + 1)), (0, (leapM mem x4)), (0, ((leapM mem x4) - x4))]) rfl dX12_leapBy_88 ?_
                refine st_goto 7 (by decide) dX12_leapBy_91 ?_
                exact st_locals [(2, 65), (0, x1), (0, x2), (0, x3), (0, (x4 + 1)), (9, 0), (9, 0)] ⟨Or.inr rfl, Or.inr rfl, Or.inr rfl, Or.inr rfl, Or.inr rfl, Or.inl rfl, Or.inl rfl, trivial⟩ (k3 h1 h2 h3 h4 h5 h6 h7)
              · have h7 : x3 < ((leapM mem x4) - x4) := by omega
                refine st_iload rfl dX12_leapBy_82 ?_
                refine st_istore_n (i := 2) rfl (by decide) (lc' := [(2, 65), (0, x1), (0, x4), (0, x3), (0, x4), (0, (leapM mem x4)), (0, ((leapM mem x4) - x4))]) rfl dX12_leapBy_84 ?_
                refine st_iload rfl dX12_leapBy_85 ?_
                refine st_istore_n (i := 3) rfl (by decide) (lc' := [(2, 65), (0, x1), (0, x4), (0, ((leapM mem x4) - x4)), (0, x4), (0, (leapM mem x4)), (0, ((leapM mem x4) - x4))]) rfl dX12_leapBy_87 ?_
                refine st_iinc (y := (x4 + 1)) (by decide) (i := 4) rfl rfl (lc' := [(2, 65), (0, x1), (0, x4), (0, ((leapM mem x4) - x4)), (0, (x4 + 1)), (0, (leapM mem x4)), (0, ((leapM mem x4) - x4))]) rfl dX12_leapBy_88 ?_
                refine st_goto 7 (by decide) dX12_leapBy_91 ?_
                exact st_locals [(2, 65), (0, x1), (0, x4), (0, ((leapM mem x4) - x4)), (0, (x4 + 1)), (9, 0), (9, 0)] ⟨Or.inr rfl, Or.inr rfl, Or.inr rfl, Or.inr rfl, Or.inr rfl, Or.inl rfl, Or.inl rfl, trivial⟩ (k4 h1 h2 h3 h4 h5 h6 h7)
            · have h6 : ¬ x1 = 0 := by omega
              refine st_iload rfl dX12_leapBy_67 ?_
              refine st_iload_n (i := 3) rfl rfl dX12_leapBy_69 ?_
              refine sr_icmp_ge 88 (s5 h1 h2 h3) (s8 h1 h2 h3 h4 h5 h6) (by decide) dX12_leapBy_70 (fun h8 => ?_) (fun h8 => ?_)
              · have h8 : x3 ≤ ((leapM mem x4) - x4) := by omega
                refine st_iinc (y := (x4 + 1)) (by decide) (i := 4) rfl rfl (lc' := [(2, 65), (0, x1), (0, x2), (0, x3), (0, (x4 + 1)), (0, (leapM mem x4)), (0, ((leapM mem x4) - x4))]) rfl dX12_leapBy_88 ?_
                refine st_goto 7 (by decide) dX12_leapBy_91 ?_
                exact st_locals [(2, 65), (0, x1), (0, x2), (0, x3), (0, (x4 + 1)), (9, 0), (9, 0)] ⟨Or.inr rfl, Or.inr rfl, Or.inr rfl, Or.inr rfl, Or.inr rfl, Or.inl rfl, Or.inl rfl, trivial⟩ (k5 h1 h2 h3 h4 h5 h6 h8)
              · have h8 : ((leapM mem x4) - x4) < x3 := by omega
                refine st_goto 82 (by decide) dX12_leapBy_73 ?_
                refine st_iload rfl dX12_leapBy_82 ?_
                refine st_istore_n (i := 2) rfl (by decide) (lc' := [(2, 65), (0, x1), (0, x4), (0, x3), (0, x4), (0, (leapM mem x4)), (0, ((leapM mem x4) - x4))]) rfl dX12_leapBy_84 ?_
                refine st_iload rfl dX12_leapBy_85 ?_
                refine st_istore_n (i := 3) rfl (by decide) (lc' := [(2, 65), (0, x1), (0, x4), (0, ((leapM mem x4) - x4)), (0, x4), (0, (leapM mem x4)), (0, ((leapM mem x4) - x4))]) rfl dX12_leapBy_87 ?_
                refine st_iinc (y := (x4 + 1)) (by decide) (i := 4) rfl rfl (lc' := [(2, 65), (0, x1), (0, x4), (0, ((leapM mem x4) - x4)), (0, (x4 + 1)), (0, (leapM mem x4)), (0, ((leapM mem x4) - x4))]) rfl dX12_leapBy_88 ?_
                refine st_goto 7 (by decide) dX12_leapBy_91 ?_
                exact st_locals [(2, 65), (0, x1), (0, x4), (0, ((leapM mem x4) - x4)), (0, (x4 + 1)), (9, 0), (9, 0)] ⟨Or.inr rfl, Or.inr rfl, Or.inr rfl, Or.inr rfl, Or.inr rfl, Or.inl rfl, Or.inl rfl, trivial⟩ (k6 h1 h2 h3 h4 h5 h6 h8)
      · have h3 : ¬ x1 = 0 := by omega
        refine st_iload rfl dX12_leapBy_38 ?_
        refine st_iload rfl dX12_leapBy_40 ?_
        refine st_isub dX12_leapBy_42 ?_
        refine st_goto 51 (by decide) dX12_leapBy_43 ?_
        refine st_istore (by decide) (lc' := [(2, 65), (0, x1), (0, x2), (0, x3), (0, x4), (0, (leapM mem x4)), (0, (x4 - (leapM mem x4)))]) rfl dX12_leapBy_51 ?_
        refine st_iload rfl dX12_leapBy_53 ?_
        refine sr_if_le 88 (s9 h1 h2 h3) (by decide) dX12_leapBy_55 (fun h9 => ?_) (fun h9 => ?_)
        · have h9 : (x4 - (leapM mem x4)) ≤ 0 := by omega
          refine st_iinc (y := (x4 + 1)) (by decide) (i := 4) rfl rfl (lc' := [(2, 65), (0, x1), (0, x2), (0, x3), (0, (x4 + 1)), (0, (leapM mem x4)), (0, (x4 - (leapM mem x4)))]) rfl dX12_leapBy_88 ?_
          refine st_goto 7 (by decide) dX12_leapBy_91 ?_
          exact st_locals [(2, 65), (0, x1), (0, x2), (0, x3), (0, (x4 + 1)), (9, 0), (9, 0)] ⟨Or.inr rfl, Or.inr rfl, Or.inr rfl, Or.inr rfl, Or.inr rfl, Or.inl rfl, Or.inl rfl, trivial⟩ (k7 h1 h2 h3 h9)
        · have h9 : 0 < (x4 - (leapM mem x4)) := by omega
          refine st_iload_n (i := 2) rfl rfl dX12_leapBy_58 ?_
          refine st_iconst dX12_leapBy_59 ?_
          refine sr_icmp_eq 82 (s10 h1 h2 h3 h9) ⟨by decide, by decide⟩ (by decide) dX12_leapBy_60 (fun h10 => ?_) (fun h10 => ?_)
          · have h10 : x2 = (-1) := by omega
            refine st_iload rfl dX12_leapBy_82 ?_
            refine st_istore_n (i := 2) rfl (by decide) (lc' := [(2, 65), (0, x1), (0, x4), (0, x3), (0, x4), (0, (leapM mem x4)), (0, (x4 - (leapM mem x4)))]) rfl dX12_leapBy_84 ?_
            refine st_iload rfl dX12_leapBy_85 ?_
            refine st_istore_n (i := 3) rfl (by decide) (lc' := [(2, 65), (0, x1), (0, x4), (0, (x4 - (leapM mem x4))), (0, x4), (0, (leapM mem x4)), (0, (x4 - (leapM mem x4)))]) rfl dX12_leapBy_87 ?_
            refine st_iinc (y := (x4 + 1)) (by decide) (i := 4) rfl rfl (lc' := [(2, 65), (0, x1), (0, x4), (0, (x4 - (leapM mem x4))), (0, (x4 + 1)), (0, (leapM mem x4)), (0, (x4 - (leapM mem x4)))]) rfl dX12_leapBy_88 ?_
            refine st_goto 7 (by decide) dX12_leapBy_91 ?_
            exact st_locals [(2, 65), (0, x1), (0, x4), (0, (x4 - (leapM mem x4))), (0, (x4 + 1)), (9, 0), (9, 0)] ⟨Or.inr rfl, Or.inr rfl, Or.inr rfl, Or.inr rfl, Or.inr rfl, Or.inl rfl, Or.inl rfl, trivial⟩ (k8 h1 h2 h3 h9 h10)
          · have h10 : ¬ x2 = (-1) := by omega
            refine st_iload_n (i := 1) rfl rfl dX12_leapBy_63 ?_
            refine sr_if_eq 76 (s4 h1 h2) (by decide) dX12_leapBy_64 (fun h11 => ?_) (fun h11 => ?_)
            · have h11 : x1 = 0 := by omega
              refine st_iload rfl dX12_leapBy_76 ?_
              refine st_iload_n (i := 3) rfl rfl dX12_leapBy_78 ?_
              refine sr_icmp_le 88 (s9 h1 h2 h3) (s11 h1 h2 h3 h9 h10 h11) (by decide) dX12_leapBy_79 (fun h12 => ?_) (fun h12 => ?_)
              · have h12 : (x4 - (leapM mem x4)) ≤ x3 := by omega
                refine st_iinc (y := (x4 + 1)) (by decide) (i := 4) rfl rfl (lc' := [(2, 65), (0, x1), (0, x2), (0, x3), (0, (x4 + 1)), (0, (leapM mem x4)), (0, (x4 - (leapM mem x4)))]) rfl dX12_leapBy_88 ?_
                refine st_goto 7 (by decide) dX12_leapBy_91 ?_
                exact st_locals [(2, 65), (0, x1), (0, x2), (0, x3), (0, (x4 + 1)), (9, 0), (9, 0)] ⟨Or.inr rfl, Or.inr rfl, Or.inr rfl, Or.inr rfl, Or.inr rfl, Or.inl rfl, Or.inl rfl, trivial⟩ (k9 h1 h2 h3 h9 h10 h11 h12)
              · have h12 : x3 < (x4 - (leapM mem x4)) := by omega
                refine st_iload rfl dX12_leapBy_82 ?_
                refine st_istore_n (i := 2) rfl (by decide) (lc' := [(2, 65), (0, x1), (0, x4), (0, x3), (0, x4), (0, (leapM mem x4)), (0, (x4 - (leapM mem x4)))]) rfl dX12_leapBy_84 ?_
                refine st_iload rfl dX12_leapBy_85 ?_
                refine st_istore_n (i := 3) rfl (by decide) (lc' := [(2, 65), (0, x1), (0, x4), (0, (x4 - (leapM mem x4))), (0, x4), (0, (leapM mem x4)), (0, (x4 - (leapM mem x4)))]) rfl dX12_leapBy_87 ?_
                refine st_iinc (y := (x4 + 1)) (by decide) (i := 4) rfl rfl (lc' := [(2, 65), (0, x1), (0, x4), (0, (x4 - (leapM mem x4))), (0, (x4 + 1)), (0, (leapM mem x4)), (0, (x4 - (leapM mem x4)))]) rfl dX12_leapBy_88 ?_
                refine st_goto 7 (by decide) dX12_leapBy_91 ?_
                exact st_locals [(2, 65), (0, x1), (0, x4), (0, (x4 - (leapM mem x4))), (0, (x4 + 1)), (9, 0), (9, 0)] ⟨Or.inr rfl, Or.inr rfl, Or.inr rfl, Or.inr rfl, Or.inr rfl, Or.inl rfl, Or.inl rfl, trivial⟩ (k10 h1 h2 h3 h9 h10 h11 h12)
            · have h11 : ¬ x1 = 0 := by omega
              refine st_iload rfl dX12_leapBy_67 ?_
              refine st_iload_n (i := 3) rfl rfl dX12_leapBy_69 ?_
              refine sr_icmp_ge 88 (s9 h1 h2 h3) (s12 h1 h2 h3 h9 h10 h11) (by decide) dX12_leapBy_70 (fun h13 => ?_) (fun h13 => ?_)
              · have h13 : x3 ≤ (x4 - (leapM mem x4)) := by omega
                refine st_iinc (y := (x4 + 1)) (by decide) (i := 4) rfl rfl (lc' := [(2, 65), (0, x1), (0, x2), (0, x3), (0, (x4 + 1)), (0, (leapM mem x4)), (0, (x4 - (leapM mem x4)))]) rfl dX12_leapBy_88 ?_
                refine st_goto 7 (by decide) dX12_leapBy_91 ?_
                exact st_locals [(2, 65), (0, x1), (0, x2), (0, x3), (0, (x4 + 1)), (9, 0), (9, 0)] ⟨Or.inr rfl, Or.inr rfl, Or.inr rfl, Or.inr rfl, Or.inr rfl, Or.inl rfl, Or.inl rfl, trivial⟩ (k11 h1 h2 h3 h9 h10 h11 h13)
              · have h13 : (x4 - (leapM mem x4)) < x3 := by omega
                refine st_goto 82 (by decide) dX12_leapBy_73 ?_
                refine st_iload rfl dX12_leapBy_82 ?_
                refine st_istore_n (i := 2) rfl (by decide) (lc' := [(2, 65), (0, x1), (0, x4), (0, x3), (0, x4), (0, (leapM mem x4)), (0, (x4 - (leapM mem x4)))]) rfl dX12_leapBy_84 ?_
                refine st_iload rfl dX12_leapBy_85 ?_
                refine st_istore_n (i := 3) rfl (by decide) (lc' := [(2, 65), (0, x1), (0, x4), (0, (x4 - (leapM mem x4))), (0, x4), (0, (leapM mem x4)), (0, (x4 - (leapM mem x4)))]) rfl dX12_leapBy_87 ?_
                refine st_iinc (y := (x4 + 1)) (by decide) (i := 4) rfl rfl (lc' := [(2, 65), (0, x1), (0, x4), (0, (x4 - (leapM mem x4))), (0, (x4 + 1)), (0, (leapM mem x4)), (0, (x4 - (leapM mem x4)))]) rfl dX12_leapBy_88 ?_
                refine st_goto 7 (by decide) dX12_leapBy_91 ?_
                exact st_locals [(2, 65), (0, x1), (0, x4), (0, (x4 - (leapM mem x4))), (0, (x4 + 1)), (9, 0), (9, 0)] ⟨Or.inr rfl, Or.inr rfl, Or.inr rfl, Or.inr rfl, Or.inr rfl, Or.inl rfl, Or.inl rfl, trivial⟩ (k12 h1 h2 h3 h9 h10 h11 h13)
    · have h2 : (leapM mem x4) = (-1) := by omega
      refine st_iconst dX12_leapBy_30 ?_
      refine st_goto 51 (by decide) dX12_leapBy_31 ?_
      refine st_istore (by decide) (lc' := [(2, 65), (0, x1), (0, x2), (0, x3), (0, x4), (0, (leapM mem x4)), (0, 0)]) rfl dX12_leapBy_51 ?_
      refine st_iload rfl dX12_leapBy_53 ?_
      refine sr_if_le 88 ⟨by decide, by decide⟩ (by decide) dX12_leapBy_55 (fun h => ?_) (fun h => ?_)
      rotate_left
      · exact absurd h (by decide)
      refine st_iinc (y := (x4 + 1)) (by decide) (i := 4) rfl rfl (lc' := [(2, 65), (0, x1), (0, x2), (0, x3), (0, (x4 + 1)), (0, (leapM mem x4)), (0, 0)]) rfl dX12_leapBy_88 ?_
      refine st_goto 7 (by decide) dX12_leapBy_91 ?_
      exact st_locals [(2, 65), (0, x1), (0, x2), (0, x3), (0, (x4 + 1)), (9, 0), (9, 0)] ⟨Or.inr rfl, Or.inr rfl, Or.inr rfl, Or.inr rfl, Or.inr rfl, Or.inl rfl, Or.inl rfl, trivial⟩ (k13 h1 h2)
theorem c_X12_leapBy (mem : mmM) (x1 : Int) (h1 : x1 = 0 ∨ x1 = 1) (hp : playM mem) : con 0 bX12_leapBy 4 [(2, 65), (0, x1)] mem (fun v m => v = (if x1 = 0 then (holeF (mem 65 27) (leapM mem)).2 else (loopF (mem 65 27) (leapM mem)).2) ∧ m = mem) := by
  have hn := hp.1
  refine cn_X12_leapBy (bk_X12_leapBy_0 ?_)
  rcases h1 with h1 | h1
  · subst h1
    refine loop_up (n := mem 65 27) (fun i => ∀ p q : Int, ((p = -1 ∧ q = 0 ∧ foldTo (fun p i => if i < leapM mem i ∧ p.1 < leapM mem i - i then (leapM mem i - i, i) else p) (-1, -1) i.toNat = (-1, -1)) ∨ (0 ≤ p ∧ 0 < q ∧ foldTo (fun p i => if i < leapM mem i ∧ p.1 < leapM mem i - i then (leapM mem i - i, i) else p) (-1, -1) i.toNat = (q, p))) → (-1 ≤ p ∧ p ≤ 24) → (0 ≤ q ∧ q ≤ 24) → mmT bX12_leapBy 4 0 0 (mQ 0 (fun v m => v = (if (0 : Int) = 0 then (holeF (mem 65 27) (leapM mem)).2 else (loopF (mem 65 27) (leapM mem)).2) ∧ m = mem)) 7 [(2, 65), (0, 0), (0, p), (0, q), (0, i), (9, 0), (9, 0)] [] mS mem) (fun i h0 h1 ih p q ha hp1 hq => ?_) 0 (by omega) (by omega) (-1) 0 (Or.inl ⟨rfl, rfl, rfl⟩) (by omega) (by omega)
    have lb : i < mem 65 27 → -1 ≤ leapM mem i ∧ leapM mem i < mem 65 27 := fun g => leapM_bnd ⟨h0, g⟩
    refine bk_X12_leapBy_7 (fun g g2 g3 g4 => ih g _ _ ?_ (by omega) (by omega)) (fun g g2 g3 g4 g5 => ih g _ _ ?_ (by omega) (by omega)) (fun g g2 g3 g4 g5 g6 g7 => ih g _ _ ?_ (by omega) (by omega)) (fun g g2 g3 g4 g5 g6 g7 => ih g _ _ ?_ (by omega) (by omega)) (fun g g2 g3 g4 g5 g6 g7 => by omega) (fun g g2 g3 g4 g5 g6 g7 => by omega) (fun g g2 g3 => by omega) (fun g g2 g3 => by omega) (fun g g2 g3 => by omega) (fun g g2 g3 => by omega) (fun g g2 g3 => by omega) (fun g g2 g3 => by omega) (fun g g2 => ih g _ _ ?_ (by omega) (by omega)) (fun g => ⟨?_, rfl⟩)
    · rcases ha with ⟨e1, e2, e3⟩ | ⟨e1, e2, e3⟩
      · exact Or.inl ⟨e1, e2, by rw [foldTo_step _ _ h0, e3, if_neg (fun z => by have := z.1; omega)]⟩
      · exact Or.inr ⟨e1, e2, by rw [foldTo_step _ _ h0, e3, if_neg (fun z => by have := z.1; omega)]⟩
    · rcases ha with ⟨e1, e2, e3⟩ | ⟨e1, e2, e3⟩
      · exact Or.inr ⟨h0, g4, by rw [foldTo_step _ _ h0, e3, if_pos ⟨by omega, by show (-1 : Int) < _; omega⟩]⟩
      · omega
    · rcases ha with ⟨e1, e2, e3⟩ | ⟨e1, e2, e3⟩
      · omega
      · exact Or.inr ⟨e1, e2, by rw [foldTo_step _ _ h0, e3, if_neg (fun z => by have : q < _ := z.2; omega)]⟩
    · rcases ha with ⟨e1, e2, e3⟩ | ⟨e1, e2, e3⟩
      · omega
      · exact Or.inr ⟨h0, g4, by rw [foldTo_step _ _ h0, e3, if_pos ⟨by omega, g7⟩]⟩
    · rcases ha with ⟨e1, e2, e3⟩ | ⟨e1, e2, e3⟩
      · exact Or.inl ⟨e1, e2, by rw [foldTo_step _ _ h0, e3, if_neg (fun z => by have := z.1; omega)]⟩
      · exact Or.inr ⟨e1, e2, by rw [foldTo_step _ _ h0, e3, if_neg (fun z => by have := z.1; omega)]⟩
    · rw [if_pos rfl]
      unfold holeF
      rw [show i = mem 65 27 by omega] at ha
      rcases ha with ⟨e1, e2, e3⟩ | ⟨e1, e2, e3⟩ <;> rw [e3]
      exact e1
  · subst h1
    refine loop_up (n := mem 65 27) (fun i => ∀ p q : Int, ((p = -1 ∧ q = 0 ∧ foldTo (fun p i => if ¬ leapM mem i = -1 ∧ leapM mem i < i ∧ (p.2 = -1 ∨ i - leapM mem i < p.1) then (i - leapM mem i, i) else p) (-1, -1) i.toNat = (-1, -1)) ∨ (0 ≤ p ∧ 0 < q ∧ foldTo (fun p i => if ¬ leapM mem i = -1 ∧ leapM mem i < i ∧ (p.2 = -1 ∨ i - leapM mem i < p.1) then (i - leapM mem i, i) else p) (-1, -1) i.toNat = (q, p))) → (-1 ≤ p ∧ p ≤ 24) → (0 ≤ q ∧ q ≤ 24) → mmT bX12_leapBy 4 0 0 (mQ 0 (fun v m => v = (if (1 : Int) = 0 then (holeF (mem 65 27) (leapM mem)).2 else (loopF (mem 65 27) (leapM mem)).2) ∧ m = mem)) 7 [(2, 65), (0, 1), (0, p), (0, q), (0, i), (9, 0), (9, 0)] [] mS mem) (fun i h0 h1 ih p q ha hp1 hq => ?_) 0 (by omega) (by omega) (-1) 0 (Or.inl ⟨rfl, rfl, rfl⟩) (by omega) (by omega)
    have lb : i < mem 65 27 → -1 ≤ leapM mem i ∧ leapM mem i < mem 65 27 := fun g => leapM_bnd ⟨h0, g⟩
    refine bk_X12_leapBy_7 (fun g g2 g3 g4 => by omega) (fun g g2 g3 g4 g5 => by omega) (fun g g2 g3 g4 g5 g6 g7 => by omega) (fun g g2 g3 g4 g5 g6 g7 => by omega) (fun g g2 g3 g4 g5 g6 g7 => by omega) (fun g g2 g3 g4 g5 g6 g7 => by omega) (fun g g2 g3 g4 => ih g _ _ ?_ (by omega) (by omega)) (fun g g2 g3 g4 g5 => ih g _ _ ?_ (by omega) (by omega)) (fun g g2 g3 g4 g5 g6 g7 => by omega) (fun g g2 g3 g4 g5 g6 g7 => by omega) (fun g g2 g3 g4 g5 g6 g7 => ih g _ _ ?_ (by omega) (by omega)) (fun g g2 g3 g4 g5 g6 g7 => ih g _ _ ?_ (by omega) (by omega)) (fun g g2 => ih g _ _ ?_ (by omega) (by omega)) (fun g => ⟨?_, rfl⟩)
    · rcases ha with ⟨e1, e2, e3⟩ | ⟨e1, e2, e3⟩
      · exact Or.inl ⟨e1, e2, by rw [foldTo_step _ _ h0, e3, if_neg (fun z => by have := z.2.1; omega)]⟩
      · exact Or.inr ⟨e1, e2, by rw [foldTo_step _ _ h0, e3, if_neg (fun z => by have := z.2.1; omega)]⟩
    · rcases ha with ⟨e1, e2, e3⟩ | ⟨e1, e2, e3⟩
      · exact Or.inr ⟨h0, g4, by rw [foldTo_step _ _ h0, e3, if_pos ⟨g2, by omega, Or.inl rfl⟩]⟩
      · omega
    · rcases ha with ⟨e1, e2, e3⟩ | ⟨e1, e2, e3⟩
      · omega
      · exact Or.inr ⟨e1, e2, by rw [foldTo_step _ _ h0, e3, if_neg (fun z => by have : p = -1 ∨ _ < q := z.2.2; omega)]⟩
    · rcases ha with ⟨e1, e2, e3⟩ | ⟨e1, e2, e3⟩
      · omega
      · exact Or.inr ⟨h0, g4, by rw [foldTo_step _ _ h0, e3, if_pos ⟨g2, by omega, Or.inr g7⟩]⟩
    · rcases ha with ⟨e1, e2, e3⟩ | ⟨e1, e2, e3⟩
      · exact Or.inl ⟨e1, e2, by rw [foldTo_step _ _ h0, e3, if_neg (fun z => z.1 g2)]⟩
      · exact Or.inr ⟨e1, e2, by rw [foldTo_step _ _ h0, e3, if_neg (fun z => z.1 g2)]⟩
    · rw [if_neg (by omega)]
      unfold loopF
      rw [show i = mem 65 27 by omega] at ha
      rcases ha with ⟨e1, e2, e3⟩ | ⟨e1, e2, e3⟩ <;> rw [e3]
      exact e1
theorem cn_X12_leapTold {d : Nat} {P : Int → mmM → Prop} {mem : mmM} {x1 x2 : Int} (h : mmT bX12_leapTold d 0 0 (mQ 0 P) 0 [(2, 65), (0, x1), (0, x2), (9, 0)] [] mS mem) : con 0 bX12_leapTold d [(2, 65), (0, x1), (0, x2)] mem P := mmC_of [(2, 65), (0, x1), (0, x2), (9, 0)] ok_X12_leapTold.2.2.2.2 rfl (Nat.le_of_ble_eq_true rfl) h
theorem bk_X12_leapTold_0 {d : Nat} {d1 : Nat} {P1 : Int → mmM → Prop} {P : Int → mmM → Prop} {mem : mmM} {x1 x2 : Int}
  (c1 : ¬ (mem 65 27) = 0 → (0 ≤ x2 ∧ x2 ≤ 1) → con 0 bX12_leapBy d1 [(2, 65), (0, x1)] mem P1)
  (q1 : (mem 65 27) = 0 → P (-1) mem)
  (q2 : ¬ (mem 65 27) = 0 → (0 ≤ x2 ∧ x2 ≤ 1) → ∀ (v2 : Int), ∀ (m2 : mmM), P1 v2 m2 → v2 = (-1) → P v2 m2)
  (q3 : ¬ (mem 65 27) = 0 → (0 ≤ x2 ∧ x2 ≤ 1) → ∀ (v2 : Int), ∀ (m2 : mmM), P1 v2 m2 → ¬ v2 = (-1) → ¬ x2 = 1 → P (if 0 ≤ ((leapM m2 v2) - v2) then ((leapM m2 v2) - v2) else -((leapM m2 v2) - v2)) m2)
  (q4 : ¬ (mem 65 27) = 0 → (0 ≤ x2 ∧ x2 ≤ 1) → ∀ (v2 : Int), ∀ (m2 : mmM), P1 v2 m2 → ¬ v2 = (-1) → x2 = 1 → P v2 m2)
  (q5 : ¬ (mem 65 27) = 0 → ¬ (0 ≤ x2 ∧ x2 ≤ 1) → P (-1) mem)
  (hd_d1 : d1 + 1 ≤ d := by omega)
  (hd1 : 1 ≤ d := by omega)
  (hd2 : 2 ≤ d := by omega)
  (hd4 : 4 ≤ d := by omega)
  (s1 : ¬ (mem 65 27) = 0 → R32 x2 := by intros; first | omega | assumption | solve_by_elim)
  (s2 : ¬ (mem 65 27) = 0 → (0 ≤ x2 ∧ x2 ≤ 1) → ∀ (v2 : Int), ∀ (m2 : mmM), P1 v2 m2 → R32 v2 := by intros; first | omega | assumption | solve_by_elim)
  (s3 : ¬ (mem 65 27) = 0 → (0 ≤ x2 ∧ x2 ≤ 1) → ∀ (v2 : Int), ∀ (m2 : mmM), P1 v2 m2 → ¬ v2 = (-1) → ¬ x2 = 1 → playM m2 := by intros; first | omega | assumption | solve_by_elim)
  (s4 : ¬ (mem 65 27) = 0 → (0 ≤ x2 ∧ x2 ≤ 1) → ∀ (v2 : Int), ∀ (m2 : mmM), P1 v2 m2 → ¬ v2 = (-1) → ¬ x2 = 1 → 0 ≤ v2 ∧ v2 < (m2 65 27) := by intros; first | omega | assumption | solve_by_elim)
  (s5 : ¬ (mem 65 27) = 0 → (0 ≤ x2 ∧ x2 ≤ 1) → ∀ (v2 : Int), ∀ (m2 : mmM), P1 v2 m2 → ¬ v2 = (-1) → ¬ x2 = 1 → (-2147483648) < ((leapM m2 v2) - v2) ∧ ((leapM m2 v2) - v2) < 2147483648 := by intros; first | omega | assumption | solve_by_elim)
  : mmT bX12_leapTold d 0 0 (mQ 0 P) 0 [(2, 65), (0, x1), (0, x2), (9, 0)] [] mS mem := by
  refine st_aload_n (i := 0) rfl (t := 0) rfl (by decide) dX12_leapTold_0 ?_
  refine so_getI (v := (mem 65 27)) 65 27 fr_X12_268_11 rfl sh_65 rfl dX12_leapTold_1 (fun r1 => ?_)
  refine sr_if_eq 16 r1 (by decide) dX12_leapTold_4 (fun h1 => ?_) (fun h1 => ?_)
  · have h1 : (mem 65 27) = 0 := by omega
    refine st_iconst dX12_leapTold_16 ?_
    exact st_ireturn rfl dX12_leapTold_17 (mQ.ret (q1 h1))
  · have h1 : ¬ (mem 65 27) = 0 := by omega
    refine st_iload_n (i := 2) rfl rfl dX12_leapTold_7 ?_
    refine st_iconst dX12_leapTold_8 ?_
    refine st_iconst dX12_leapTold_9 ?_
    refine st_callS (kc2 := 0) (ks2 := 0) (av := [(0, x2), (0, 0), (0, 1)]) mr_X12_229 ok_X12_in (c_X12_in mem x2 0 1 ((s1 h1)) (⟨by decide, by decide⟩) (⟨by decide, by decide⟩)) rfl rfl hd2 (Nat.le_refl 0) (Nat.le_refl 0) (Nat.le_of_ble_eq_true rfl) dX12_leapTold_10 (mQ.elim fun v1 m1 hp => ?_)
    obtain ⟨hpv, hpm⟩ := hp
    subst hpv
    have hpm := hpm.symm
    subst hpm
    refine so_ifneB 18 (by decide) dX12_leapTold_13 (fun h2 => ?_) (fun h2 => ?_)
    · have h2 : (0 ≤ x2 ∧ x2 ≤ 1) := h2
      refine st_aload_n (i := 0) rfl (t := 0) rfl (by decide) dX12_leapTold_18 ?_
      refine st_iload_n (i := 1) rfl rfl dX12_leapTold_19 ?_
      refine st_callV (kc2 := 0) (ks2 := 0) (av := [(0, x1)]) 65 11 mr_X12_386 ok_X12_leapBy (c1 h1 h2) rfl sh_65 ⟨_, rfl, rfl, by decide⟩ rfl rfl hd_d1 (Nat.le_refl 0) (Nat.le_refl 0) (Nat.le_of_ble_eq_true rfl) dX12_leapTold_20 (mQ.elim fun v2 m2 p1 => ?_)
      refine st_istore_n (i := 3) rfl (by decide) (lc' := [(2, 65), (0, x1), (0, x2), (0, v2)]) rfl dX12_leapTold_23 ?_
      refine st_iload_n (i := 3) rfl rfl dX12_leapTold_24 ?_
      refine st_iconst dX12_leapTold_25 ?_
      refine sr_icmp_eq 34 (s2 h1 h2 v2 m2 p1) ⟨by decide, by decide⟩ (by decide) dX12_leapTold_26 (fun h3 => ?_) (fun h3 => ?_)
      · have h3 : v2 = (-1) := by omega
        refine st_iload_n (i := 3) rfl rfl dX12_leapTold_34 ?_
        refine st_goto 48 (by decide) dX12_leapTold_35 ?_
        exact st_ireturn rfl dX12_leapTold_48 (mQ.ret (q2 h1 h2 v2 m2 p1 h3))
      · have h3 : ¬ v2 = (-1) := by omega
        refine st_iload_n (i := 2) rfl rfl dX12_leapTold_29 ?_
        refine st_iconst dX12_leapTold_30 ?_
        refine sr_icmp_ne 38 (s1 h1) ⟨by decide, by decide⟩ (by decide) dX12_leapTold_31 (fun h4 => ?_) (fun h4 => ?_)
        · have h4 : ¬ x2 = 1 := by omega
          refine st_aload_n (i := 0) rfl (t := 0) rfl (by decide) dX12_leapTold_38 ?_
          refine st_iload_n (i := 3) rfl rfl dX12_leapTold_39 ?_
          refine st_callV (kc2 := 0) (ks2 := 0) (av := [(0, v2)]) 65 11 mr_X12_326 ok_X12_leapOf (c_X12_leapOf m2 v2 ((s3 h1 h2 v2 m2 p1 h3 h4)) ((s4 h1 h2 v2 m2 p1 h3 h4))) rfl sh_65 ⟨_, rfl, rfl, by decide⟩ rfl rfl hd4 (Nat.le_refl 0) (Nat.le_refl 0) (Nat.le_of_ble_eq_true rfl) dX12_leapTold_40 (mQ.elim fun v3 m3 hp => ?_)
          obtain ⟨hpv, hpm⟩ := hp
          subst hpv
          have hpm := hpm.symm
          subst hpm
          refine st_iload_n (i := 3) rfl rfl dX12_leapTold_43 ?_
          refine st_isub dX12_leapTold_44 ?_
          refine sr_mabs (s5 h1 h2 v2 m2 p1 h3 h4) mr_X12_390 ms_absi mi_Math mc_absi hd1 (Nat.le_of_ble_eq_true rfl) dX12_leapTold_45 ?_
          exact st_ireturn rfl dX12_leapTold_48 (mQ.ret (q3 h1 h2 v2 m2 p1 h3 h4))
        · have h4 : x2 = 1 := by omega
          refine st_iload_n (i := 3) rfl rfl dX12_leapTold_34 ?_
          refine st_goto 48 (by decide) dX12_leapTold_35 ?_
          exact st_ireturn rfl dX12_leapTold_48 (mQ.ret (q4 h1 h2 v2 m2 p1 h3 h4))
    · have h2 : ¬ (0 ≤ x2 ∧ x2 ≤ 1) := h2
      refine st_iconst dX12_leapTold_16 ?_
      exact st_ireturn rfl dX12_leapTold_17 (mQ.ret (q5 h1 h2))
theorem cn_X12_loop {d : Nat} {P : Int → mmM → Prop} {mem : mmM} {x1 : Int} (h : mmT bX12_loop d 0 0 (mQ 0 P) 0 [(2, 65), (0, x1)] [] mS mem) : con 0 bX12_loop d [(2, 65), (0, x1)] mem P := mmC_of [(2, 65), (0, x1)] ok_X12_loop.2.2.2.2 rfl (Nat.le_of_ble_eq_true rfl) h
theorem bk_X12_loop_0 {d : Nat} {d1 : Nat} {P1 : Int → mmM → Prop} {P : Int → mmM → Prop} {mem : mmM} {x1 : Int}
  (c1 : con 0 bX12_leapTold d1 [(2, 65), (0, 1), (0, x1)] mem P1)
  (q1 : ∀ (v1 : Int), ∀ (m1 : mmM), P1 v1 m1 → P v1 m1)
  (hd_d1 : d1 + 1 ≤ d := by omega)
  : mmT bX12_loop d 0 0 (mQ 0 P) 0 [(2, 65), (0, x1)] [] mS mem := by
  refine st_aload_n (i := 0) rfl (t := 0) rfl (by decide) dX12_loop_0 ?_
  refine st_iconst dX12_loop_1 ?_
  refine st_iload_n (i := 1) rfl rfl dX12_loop_2 ?_
  refine st_callV (kc2 := 0) (ks2 := 0) (av := [(0, 1), (0, x1)]) 65 11 mr_X12_393 ok_X12_leapTold c1 rfl sh_65 ⟨_, rfl, rfl, by decide⟩ rfl rfl hd_d1 (Nat.le_refl 0) (Nat.le_refl 0) (Nat.le_of_ble_eq_true rfl) dX12_loop_3 (mQ.elim fun v1 m1 p1 => ?_)
  exact st_ireturn rfl dX12_loop_6 (mQ.ret (q1 v1 m1 p1))
theorem cn_X12_hole {d : Nat} {P : Int → mmM → Prop} {mem : mmM} {x1 : Int} (h : mmT bX12_hole d 0 0 (mQ 0 P) 0 [(2, 65), (0, x1)] [] mS mem) : con 0 bX12_hole d [(2, 65), (0, x1)] mem P := mmC_of [(2, 65), (0, x1)] ok_X12_hole.2.2.2.2 rfl (Nat.le_of_ble_eq_true rfl) h
theorem bk_X12_hole_0 {d : Nat} {d1 : Nat} {P1 : Int → mmM → Prop} {P : Int → mmM → Prop} {mem : mmM} {x1 : Int}
  (c1 : con 0 bX12_leapTold d1 [(2, 65), (0, 0), (0, x1)] mem P1)
  (q1 : ∀ (v1 : Int), ∀ (m1 : mmM), P1 v1 m1 → P v1 m1)
  (hd_d1 : d1 + 1 ≤ d := by omega)
  : mmT bX12_hole d 0 0 (mQ 0 P) 0 [(2, 65), (0, x1)] [] mS mem := by
  refine st_aload_n (i := 0) rfl (t := 0) rfl (by decide) dX12_hole_0 ?_
  refine st_iconst dX12_hole_1 ?_
  refine st_iload_n (i := 1) rfl rfl dX12_hole_2 ?_
  refine st_callV (kc2 := 0) (ks2 := 0) (av := [(0, 0), (0, x1)]) 65 11 mr_X12_393 ok_X12_leapTold c1 rfl sh_65 ⟨_, rfl, rfl, by decide⟩ rfl rfl hd_d1 (Nat.le_refl 0) (Nat.le_refl 0) (Nat.le_of_ble_eq_true rfl) dX12_hole_3 (mQ.elim fun v1 m1 p1 => ?_)
  exact st_ireturn rfl dX12_hole_6 (mQ.ret (q1 v1 m1 p1))
def pairM (back : Int) (mem : mmM) : Int × Int := if back = 0 then holeF (mem 65 27) (leapM mem) else loopF (mem 65 27) (leapM mem)
theorem pairM_2 (back : Int) (mem : mmM) : (if back = 0 then (holeF (mem 65 27) (leapM mem)).2 else (loopF (mem 65 27) (leapM mem)).2) = (pairM back mem).2 := by
  unfold pairM
  split <;> rfl
theorem pairM_spec (back : Int) (mem : mmM) (hn : 0 ≤ mem 65 27) : ((pairM back mem).2 = -1 ∧ (pairM back mem).1 = -1) ∨ ((0 ≤ (pairM back mem).2 ∧ (pairM back mem).2 < mem 65 27) ∧ (pairM back mem).1 = (if 0 ≤ leapM mem (pairM back mem).2 - (pairM back mem).2 then leapM mem (pairM back mem).2 - (pairM back mem).2 else -(leapM mem (pairM back mem).2 - (pairM back mem).2))) := by
  unfold pairM
  split
  · rcases holeF_spec (mem 65 27) (leapM mem) hn with h | h
    · exact Or.inl h
    · exact Or.inr ⟨h.1, by rw [if_pos (by omega)]; omega⟩
  · rcases loopF_spec (mem 65 27) (leapM mem) hn with h | h
    · exact Or.inl h
    · exact Or.inr ⟨h.1, by rw [if_neg (by omega)]; omega⟩
def toldM (back : Int) (mem : mmM) (what : Int) : Int := if mem 65 27 = 0 ∨ ¬ (0 ≤ what ∧ what ≤ 1) then -1 else if what = 0 then (pairM back mem).1 else (pairM back mem).2
theorem c_X12_leapTold (mem : mmM) (x1 x2 : Int) (h1 : x1 = 0 ∨ x1 = 1) (h2 : R32 x2) (hp : playM mem) : con 0 bX12_leapTold 5 [(2, 65), (0, x1), (0, x2)] mem (fun v m => v = toldM x1 mem x2 ∧ m = mem) := by
  have hn := hp.1
  have hs := pairM_spec x1 mem hn.1
  have lb : ∀ i, 0 ≤ i → i < mem 65 27 → -1 ≤ leapM mem i ∧ leapM mem i < mem 65 27 := fun i g g2 => leapM_bnd ⟨g, g2⟩
  have cb := c_X12_leapBy mem x1 h1 hp
  rw [pairM_2] at cb
  have b1 : ∀ v m, v = (pairM x1 mem).2 ∧ m = mem → R32 v := by
    rintro v m ⟨e, -⟩
    omega
  have b2 : ∀ v m, (v = (pairM x1 mem).2 ∧ m = mem) → ¬ v = -1 → 0 ≤ v ∧ v < m 65 27 := by
    rintro v m ⟨e, e2⟩ g
    subst e2
    omega
  refine cn_X12_leapTold (bk_X12_leapTold_0 (fun g g2 => cb) (fun g => ⟨?_, rfl⟩) (fun g g2 v m q g3 => ⟨?_, q.2⟩) (fun g g2 v m q g3 g4 => ⟨?_, q.2⟩) (fun g g2 v m q g3 g4 => ⟨?_, q.2⟩) (fun g g2 => ⟨?_, rfl⟩) (s2 := fun _ _ v m q => b1 v m q) (s3 := fun _ _ v m q _ _ => by rw [q.2]; exact hp) (s4 := fun _ _ v m q g _ => b2 v m q g) (s5 := fun _ _ v m q g _ => by
    have w := b2 v m q g
    have := q.2
    subst this
    have := lb v w.1 w.2
    omega))
  · unfold toldM
    rw [if_pos (Or.inl g)]
  · unfold toldM
    rw [if_neg (by omega)]
    have := q.1
    split <;> omega
  · have e := q.2
    subst e
    have e := q.1
    subst e
    have e : toldM x1 m x2 = (pairM x1 m).1 := by
      unfold toldM
      rw [if_neg (by omega), if_pos (by omega)]
    rw [e]
    rcases hs with hs | hs
    · exact absurd hs.1 g3
    · exact hs.2.symm
  · unfold toldM
    rw [if_neg (by omega), if_neg (by omega)]
    exact q.1
  · unfold toldM
    rw [if_pos (Or.inr g2)]
theorem c_X12_loop (mem : mmM) (x1 : Int) (h1 : R32 x1) (hp : playM mem) : con 0 bX12_loop 6 [(2, 65), (0, x1)] mem (fun v m => v = toldM 1 mem x1 ∧ m = mem) :=
  cn_X12_loop (bk_X12_loop_0 (c_X12_leapTold mem 1 x1 (Or.inr rfl) h1 hp) (fun v m q => q))
theorem c_X12_hole (mem : mmM) (x1 : Int) (h1 : R32 x1) (hp : playM mem) : con 0 bX12_hole 6 [(2, 65), (0, x1)] mem (fun v m => v = toldM 0 mem x1 ∧ m = mem) :=
  cn_X12_hole (bk_X12_hole_0 (c_X12_leapTold mem 0 x1 (Or.inl rfl) h1 hp) (fun v m q => q))
theorem cn_X12_silence {d : Nat} {P : Int → mmM → Prop} {mem : mmM} {x1 : Int} (h : mmT bX12_silence d 0 0 (mQ 0 P) 0 [(2, 65), (0, x1), (9, 0), (9, 0), (9, 0)] [] mS mem) : con 0 bX12_silence d [(2, 65), (0, x1)] mem P := mmC_of [(2, 65), (0, x1), (9, 0), (9, 0), (9, 0)] ok_X12_silence.2.2.2.2 rfl (Nat.le_of_ble_eq_true rfl) h
theorem bk_X12_silence_0 {d : Nat} {P : Int → mmM → Prop} {mem : mmM} {x1 : Int}
  (k1 : ¬ (mem 65 27) = 0 → (0 ≤ x1 ∧ x1 ≤ 7) → mmT bX12_silence d 0 0 (mQ 0 P) 23 [(2, 65), (0, x1), (0, (-1)), (0, (-1)), (0, 0)] [] mS mem)
  (q1 : (mem 65 27) = 0 → P (-1) mem)
  (q2 : ¬ (mem 65 27) = 0 → ¬ (0 ≤ x1 ∧ x1 ≤ 7) → P (-1) mem)
  (hd3 : 3 ≤ d := by omega)
  (s1 : ¬ (mem 65 27) = 0 → R32 x1 := by intros; first | omega | assumption | solve_by_elim)
  : mmT bX12_silence d 0 0 (mQ 0 P) 0 [(2, 65), (0, x1), (9, 0), (9, 0), (9, 0)] [] mS mem := by
  refine st_aload_n (i := 0) rfl (t := 0) rfl (by decide) dX12_silence_0 ?_
  refine so_getI (v := (mem 65 27)) 65 27 fr_X12_268_11 rfl sh_65 rfl dX12_silence_1 (fun r1 => ?_)
  refine sr_if_eq 14 r1 (by decide) dX12_silence_4 (fun h1 => ?_) (fun h1 => ?_)
  · have h1 : (mem 65 27) = 0 := by omega
    refine st_iconst dX12_silence_14 ?_
    exact st_ireturn rfl dX12_silence_15 (mQ.ret (q1 h1))
  · have h1 : ¬ (mem 65 27) = 0 := by omega
    refine st_iload_n (i := 1) rfl rfl dX12_silence_7 ?_
    refine st_callS (kc2 := 0) (ks2 := 0) (av := [(0, x1)]) mr_X12_323 ok_X12_isActor (c_X12_isActor mem x1 ((s1 h1))) rfl rfl hd3 (Nat.le_refl 0) (Nat.le_refl 0) (Nat.le_of_ble_eq_true rfl) dX12_silence_8 (mQ.elim fun v1 m1 hp => ?_)
    obtain ⟨hpv, hpm⟩ := hp
    subst hpv
    have hpm := hpm.symm
    subst hpm
    refine so_ifneB 16 (by decide) dX12_silence_11 (fun h2 => ?_) (fun h2 => ?_)
    · have h2 : (0 ≤ x1 ∧ x1 ≤ 7) := h2
      refine st_iconst dX12_silence_16 ?_
      refine st_istore_n (i := 2) rfl (by decide) (lc' := [(2, 65), (0, x1), (0, (-1)), (9, 0), (9, 0)]) rfl dX12_silence_17 ?_
      refine st_iconst dX12_silence_18 ?_
      refine st_istore_n (i := 3) rfl (by decide) (lc' := [(2, 65), (0, x1), (0, (-1)), (0, (-1)), (9, 0)]) rfl dX12_silence_19 ?_
      refine st_iconst dX12_silence_20 ?_
      refine st_istore (by decide) (lc' := [(2, 65), (0, x1), (0, (-1)), (0, (-1)), (0, 0)]) rfl dX12_silence_21 ?_
      exact st_locals [(2, 65), (0, x1), (0, (-1)), (0, (-1)), (0, 0)] ⟨Or.inr rfl, Or.inr rfl, Or.inr rfl, Or.inr rfl, Or.inr rfl, trivial⟩ (k1 h1 h2)
    · have h2 : ¬ (0 ≤ x1 ∧ x1 ≤ 7) := h2
      refine st_iconst dX12_silence_14 ?_
      exact st_ireturn rfl dX12_silence_15 (mQ.ret (q2 h1 h2))
theorem bk_X12_silence_23 {d : Nat} {P : Int → mmM → Prop} {mem : mmM} {x1 x2 x3 x4 : Int}
  (k1 : x4 < (mem 65 27) → ¬ (mem 79 x4) = x1 → ¬ x3 = (-1) → mmT bX12_silence d 0 0 (mQ 0 P) 23 [(2, 65), (0, x1), (0, x2), (0, (x3 + (mem 81 x4))), (0, (x4 + 1))] [] mS mem)
  (k2 : x4 < (mem 65 27) → ¬ (mem 79 x4) = x1 → x3 = (-1) → mmT bX12_silence d 0 0 (mQ 0 P) 23 [(2, 65), (0, x1), (0, x2), (0, (x3 + 0)), (0, (x4 + 1))] [] mS mem)
  (k3 : x4 < (mem 65 27) → (mem 79 x4) = x1 → mmT bX12_silence d 0 0 (mQ 0 P) 23 [(2, 65), (0, x1), (0, (max x2 x3)), (0, 0), (0, (x4 + 1))] [] mS mem)
  (q1 : (mem 65 27) ≤ x4 → P x2 mem)
  (hd1 : 1 ≤ d := by omega)
  (s1 : R32 x4 := by intros; first | omega | assumption | solve_by_elim)
  (s2 : x4 < (mem 65 27) → 0 ≤ x4 ∧ x4 < 24 := by intros; first | omega | assumption | solve_by_elim)
  (s3 : x4 < (mem 65 27) → R32 x1 := by intros; first | omega | assumption | solve_by_elim)
  (s4 : x4 < (mem 65 27) → ¬ (mem 79 x4) = x1 → R32 x3 := by intros; first | omega | assumption | solve_by_elim)
  (s5 : x4 < (mem 65 27) → (mem 79 x4) = x1 → R32 x2 := by intros; first | omega | assumption | solve_by_elim)
  (s6 : x4 < (mem 65 27) → (mem 79 x4) = x1 → R32 x3 := by intros; first | omega | assumption | solve_by_elim)
  : mmT bX12_silence d 0 0 (mQ 0 P) 23 [(2, 65), (0, x1), (0, x2), (0, x3), (0, x4)] [] mS mem := by
  refine st_iload rfl dX12_silence_23 ?_
  refine st_aload_n (i := 0) rfl (t := 0) rfl (by decide) dX12_silence_25 ?_
  refine so_getI (v := (mem 65 27)) 65 27 fr_X12_268_11 rfl sh_65 rfl dX12_silence_26 (fun r1 => ?_)
  refine sr_icmp_ge 79 s1 r1 (by decide) dX12_silence_29 (fun h1 => ?_) (fun h1 => ?_)
  · have h1 : (mem 65 27) ≤ x4 := by omega
    refine st_iload_n (i := 2) rfl rfl dX12_silence_79 ?_
    exact st_ireturn rfl dX12_silence_80 (mQ.ret (q1 h1))
  · have h1 : x4 < (mem 65 27) := by omega
    refine st_aload_n (i := 0) rfl (t := 0) rfl (by decide) dX12_silence_32 ?_
    refine so_getA 65 22 fr_X12_49_11 rfl sh_65 fx_65_22 dX12_silence_33 ?_
    refine st_iload rfl dX12_silence_36 ?_
    refine so_iald (v := (mem 79 x4)) 79 rfl sh_79 (by decide) (s2 h1) rfl dX12_silence_38 (fun r2 => ?_)
    refine st_iload_n (i := 1) rfl rfl dX12_silence_39 ?_
    refine sr_icmp_ne 54 r2 (s3 h1) (by decide) dX12_silence_40 (fun h2 => ?_) (fun h2 => ?_)
    · have h2 : ¬ (mem 79 x4) = x1 := by omega
      refine st_iload_n (i := 3) rfl rfl dX12_silence_54 ?_
      refine st_iload_n (i := 3) rfl rfl dX12_silence_55 ?_
      refine st_iconst dX12_silence_56 ?_
      refine sr_icmp_ne 64 (s4 h1 h2) ⟨by decide, by decide⟩ (by decide) dX12_silence_57 (fun h3 => ?_) (fun h3 => ?_)
      · have h3 : ¬ x3 = (-1) := by omega
        refine st_aload_n (i := 0) rfl (t := 0) rfl (by decide) dX12_silence_64 ?_
        refine so_getA 65 24 fr_X12_55_11 rfl sh_65 fx_65_24 dX12_silence_65 ?_
        refine st_iload rfl dX12_silence_68 ?_
        refine so_iald (v := (mem 81 x4)) 81 rfl sh_81 (by decide) (s2 h1) rfl dX12_silence_70 (fun r3 => ?_)
        refine st_iadd dX12_silence_71 ?_
        refine st_istore_n (i := 3) rfl (by decide) (lc' := [(2, 65), (0, x1), (0, x2), (0, (x3 + (mem 81 x4))), (0, x4)]) rfl dX12_silence_72 ?_
        refine st_iinc (y := (x4 + 1)) (by decide) (i := 4) rfl rfl (lc' := [(2, 65), (0, x1), (0, x2), (0, (x3 + (mem 81 x4))), (0, (x4 + 1))]) rfl dX12_silence_73 ?_
        refine st_goto 23 (by decide) dX12_silence_76 ?_
        exact st_locals [(2, 65), (0, x1), (0, x2), (0, (x3 + (mem 81 x4))), (0, (x4 + 1))] ⟨Or.inr rfl, Or.inr rfl, Or.inr rfl, Or.inr rfl, Or.inr rfl, trivial⟩ (k1 h1 h2 h3)
      · have h3 : x3 = (-1) := by omega
        refine st_iconst dX12_silence_60 ?_
        refine st_goto 71 (by decide) dX12_silence_61 ?_
        refine st_iadd dX12_silence_71 ?_
        refine st_istore_n (i := 3) rfl (by decide) (lc' := [(2, 65), (0, x1), (0, x2), (0, (x3 + 0)), (0, x4)]) rfl dX12_silence_72 ?_
        refine st_iinc (y := (x4 + 1)) (by decide) (i := 4) rfl rfl (lc' := [(2, 65), (0, x1), (0, x2), (0, (x3 + 0)), (0, (x4 + 1))]) rfl dX12_silence_73 ?_
        refine st_goto 23 (by decide) dX12_silence_76 ?_
        exact st_locals [(2, 65), (0, x1), (0, x2), (0, (x3 + 0)), (0, (x4 + 1))] ⟨Or.inr rfl, Or.inr rfl, Or.inr rfl, Or.inr rfl, Or.inr rfl, trivial⟩ (k2 h1 h2 h3)
    · have h2 : (mem 79 x4) = x1 := by omega
      refine st_iload_n (i := 2) rfl rfl dX12_silence_43 ?_
      refine st_iload_n (i := 3) rfl rfl dX12_silence_44 ?_
      refine sr_mmax (s5 h1 h2) (s6 h1 h2) mr_X12_315 ms_maxi mi_Math mc_maxi hd1 (Nat.le_of_ble_eq_true rfl) dX12_silence_45 ?_
      refine st_istore_n (i := 2) rfl (by decide) (lc' := [(2, 65), (0, x1), (0, (max x2 x3)), (0, x3), (0, x4)]) rfl dX12_silence_48 ?_
      refine st_iconst dX12_silence_49 ?_
      refine st_istore_n (i := 3) rfl (by decide) (lc' := [(2, 65), (0, x1), (0, (max x2 x3)), (0, 0), (0, x4)]) rfl dX12_silence_50 ?_
      refine st_goto 73 (by decide) dX12_silence_51 ?_
      refine st_iinc (y := (x4 + 1)) (by decide) (i := 4) rfl rfl (lc' := [(2, 65), (0, x1), (0, (max x2 x3)), (0, 0), (0, (x4 + 1))]) rfl dX12_silence_73 ?_
      refine st_goto 23 (by decide) dX12_silence_76 ?_
      exact st_locals [(2, 65), (0, x1), (0, (max x2 x3)), (0, 0), (0, (x4 + 1))] ⟨Or.inr rfl, Or.inr rfl, Or.inr rfl, Or.inr rfl, Or.inr rfl, trivial⟩ (k3 h1 h2)
theorem cn_X12_doubtful {d : Nat} {P : Int → mmM → Prop} {mem : mmM} {x1 : Int} (h : mmT bX12_doubtful d 0 0 (mQ 0 P) 0 [(2, 65), (0, x1), (9, 0), (9, 0)] [] mS mem) : con 0 bX12_doubtful d [(2, 65), (0, x1)] mem P := mmC_of [(2, 65), (0, x1), (9, 0), (9, 0)] ok_X12_doubtful.2.2.2.2 rfl (Nat.le_of_ble_eq_true rfl) h
theorem bk_X12_doubtful_0 {d : Nat} {P : Int → mmM → Prop} {mem : mmM} {x1 : Int}
  (k1 : ¬ (mem 65 27) = 0 → (0 ≤ x1 ∧ x1 ≤ 7) → mmT bX12_doubtful d 0 0 (mQ 0 P) 20 [(2, 65), (0, x1), (0, 0), (0, 0)] [] mS mem)
  (q1 : (mem 65 27) = 0 → P (-1) mem)
  (q2 : ¬ (mem 65 27) = 0 → ¬ (0 ≤ x1 ∧ x1 ≤ 7) → P (-1) mem)
  (hd3 : 3 ≤ d := by omega)
  (s1 : ¬ (mem 65 27) = 0 → R32 x1 := by intros; first | omega | assumption | solve_by_elim)
  : mmT bX12_doubtful d 0 0 (mQ 0 P) 0 [(2, 65), (0, x1), (9, 0), (9, 0)] [] mS mem := by
  refine st_aload_n (i := 0) rfl (t := 0) rfl (by decide) dX12_doubtful_0 ?_
  refine so_getI (v := (mem 65 27)) 65 27 fr_X12_268_11 rfl sh_65 rfl dX12_doubtful_1 (fun r1 => ?_)
  refine sr_if_eq 14 r1 (by decide) dX12_doubtful_4 (fun h1 => ?_) (fun h1 => ?_)
  · have h1 : (mem 65 27) = 0 := by omega
    refine st_iconst dX12_doubtful_14 ?_
    exact st_ireturn rfl dX12_doubtful_15 (mQ.ret (q1 h1))
  · have h1 : ¬ (mem 65 27) = 0 := by omega
    refine st_iload_n (i := 1) rfl rfl dX12_doubtful_7 ?_
    refine st_callS (kc2 := 0) (ks2 := 0) (av := [(0, x1)]) mr_X12_323 ok_X12_isActor (c_X12_isActor mem x1 ((s1 h1))) rfl rfl hd3 (Nat.le_refl 0) (Nat.le_refl 0) (Nat.le_of_ble_eq_true rfl) dX12_doubtful_8 (mQ.elim fun v1 m1 hp => ?_)
    obtain ⟨hpv, hpm⟩ := hp
    subst hpv
    have hpm := hpm.symm
    subst hpm
    refine so_ifneB 16 (by decide) dX12_doubtful_11 (fun h2 => ?_) (fun h2 => ?_)
    · have h2 : (0 ≤ x1 ∧ x1 ≤ 7) := h2
      refine st_iconst dX12_doubtful_16 ?_
      refine st_istore_n (i := 2) rfl (by decide) (lc' := [(2, 65), (0, x1), (0, 0), (9, 0)]) rfl dX12_doubtful_17 ?_
      refine st_iconst dX12_doubtful_18 ?_
      refine st_istore_n (i := 3) rfl (by decide) (lc' := [(2, 65), (0, x1), (0, 0), (0, 0)]) rfl dX12_doubtful_19 ?_
      exact st_locals [(2, 65), (0, x1), (0, 0), (0, 0)] ⟨Or.inr rfl, Or.inr rfl, Or.inr rfl, Or.inr rfl, trivial⟩ (k1 h1 h2)
    · have h2 : ¬ (0 ≤ x1 ∧ x1 ≤ 7) := h2
      refine st_iconst dX12_doubtful_14 ?_
      exact st_ireturn rfl dX12_doubtful_15 (mQ.ret (q2 h1 h2))
theorem bk_X12_doubtful_20 {d : Nat} {P : Int → mmM → Prop} {mem : mmM} {x1 x2 x3 : Int}
  (k1 : x3 < (mem 65 27) → ¬ (mem 79 x3) = x1 → mmT bX12_doubtful d 0 0 (mQ 0 P) 20 [(2, 65), (0, x1), (0, (x2 + 0)), (0, (x3 + 1))] [] mS mem)
  (k2 : x3 < (mem 65 27) → (mem 79 x3) = x1 → (likesF (mem 65 27) (mem 79) (cueF (mem 80)) x3) ≤ 0 → mmT bX12_doubtful d 0 0 (mQ 0 P) 20 [(2, 65), (0, x1), (0, (x2 + 0)), (0, (x3 + 1))] [] mS mem)
  (k3 : x3 < (mem 65 27) → (mem 79 x3) = x1 → 0 < (likesF (mem 65 27) (mem 79) (cueF (mem 80)) x3) → mmT bX12_doubtful d 0 0 (mQ 0 P) 20 [(2, 65), (0, x1), (0, (x2 + 1)), (0, (x3 + 1))] [] mS mem)
  (q1 : (mem 65 27) ≤ x3 → P x2 mem)
  (hd4 : 4 ≤ d := by omega)
  (s1 : R32 x3 := by intros; first | omega | assumption | solve_by_elim)
  (s2 : x3 < (mem 65 27) → 0 ≤ x3 ∧ x3 < 24 := by intros; first | omega | assumption | solve_by_elim)
  (s3 : x3 < (mem 65 27) → R32 x1 := by intros; first | omega | assumption | solve_by_elim)
  (s4 : x3 < (mem 65 27) → (mem 79 x3) = x1 → playM mem := by intros; first | omega | assumption | solve_by_elim)
  (s5 : x3 < (mem 65 27) → (mem 79 x3) = x1 → 0 ≤ x3 ∧ x3 < (mem 65 27) := by intros; first | omega | assumption | solve_by_elim)
  : mmT bX12_doubtful d 0 0 (mQ 0 P) 20 [(2, 65), (0, x1), (0, x2), (0, x3)] [] mS mem := by
  refine st_iload_n (i := 3) rfl rfl dX12_doubtful_20 ?_
  refine st_aload_n (i := 0) rfl (t := 0) rfl (by decide) dX12_doubtful_21 ?_
  refine so_getI (v := (mem 65 27)) 65 27 fr_X12_268_11 rfl sh_65 rfl dX12_doubtful_22 (fun r1 => ?_)
  refine sr_icmp_ge 60 s1 r1 (by decide) dX12_doubtful_25 (fun h1 => ?_) (fun h1 => ?_)
  · have h1 : (mem 65 27) ≤ x3 := by omega
    refine st_iload_n (i := 2) rfl rfl dX12_doubtful_60 ?_
    exact st_ireturn rfl dX12_doubtful_61 (mQ.ret (q1 h1))
  · have h1 : x3 < (mem 65 27) := by omega
    refine st_iload_n (i := 2) rfl rfl dX12_doubtful_28 ?_
    refine st_aload_n (i := 0) rfl (t := 0) rfl (by decide) dX12_doubtful_29 ?_
    refine so_getA 65 22 fr_X12_49_11 rfl sh_65 fx_65_22 dX12_doubtful_30 ?_
    refine st_iload_n (i := 3) rfl rfl dX12_doubtful_33 ?_
    refine so_iald (v := (mem 79 x3)) 79 rfl sh_79 (by decide) (s2 h1) rfl dX12_doubtful_34 (fun r2 => ?_)
    refine st_iload_n (i := 1) rfl rfl dX12_doubtful_35 ?_
    refine sr_icmp_ne 51 r2 (s3 h1) (by decide) dX12_doubtful_36 (fun h2 => ?_) (fun h2 => ?_)
    · have h2 : ¬ (mem 79 x3) = x1 := by omega
      refine st_iconst dX12_doubtful_51 ?_
      refine st_iadd dX12_doubtful_52 ?_
      refine st_istore_n (i := 2) rfl (by decide) (lc' := [(2, 65), (0, x1), (0, (x2 + 0)), (0, x3)]) rfl dX12_doubtful_53 ?_
      refine st_iinc (y := (x3 + 1)) (by decide) (i := 3) rfl rfl (lc' := [(2, 65), (0, x1), (0, (x2 + 0)), (0, (x3 + 1))]) rfl dX12_doubtful_54 ?_
      refine st_goto 20 (by decide) dX12_doubtful_57 ?_
      exact st_locals [(2, 65), (0, x1), (0, (x2 + 0)), (0, (x3 + 1))] ⟨Or.inr rfl, Or.inr rfl, Or.inr rfl, Or.inr rfl, trivial⟩ (k1 h1 h2)
    · have h2 : (mem 79 x3) = x1 := by omega
      refine st_aload_n (i := 0) rfl (t := 0) rfl (by decide) dX12_doubtful_39 ?_
      refine st_iload_n (i := 3) rfl rfl dX12_doubtful_40 ?_
      refine st_callV (kc2 := 0) (ks2 := 0) (av := [(0, x3)]) 65 11 mr_X12_306 ok_X12_likes (c_X12_likes mem x3 ((s4 h1 h2)) ((s5 h1 h2))) rfl sh_65 ⟨_, rfl, rfl, by decide⟩ rfl rfl hd4 (Nat.le_refl 0) (Nat.le_refl 0) (Nat.le_of_ble_eq_true rfl) dX12_doubtful_41 (mQ.elim fun v1 m1 hp => ?_)
      obtain ⟨hpv, hpm⟩ := hp
      subst hpv
      have hpm := hpm.symm
      subst hpm
      refine sr_if_le 51 (likesM_rng ((s4 h1 h2)) ((s5 h1 h2))) (by decide) dX12_doubtful_44 (fun h3 => ?_) (fun h3 => ?_)
      · have h3 : (likesF (mem 65 27) (mem 79) (cueF (mem 80)) x3) ≤ 0 := by omega
        refine st_iconst dX12_doubtful_51 ?_
        refine st_iadd dX12_doubtful_52 ?_
        refine st_istore_n (i := 2) rfl (by decide) (lc' := [(2, 65), (0, x1), (0, (x2 + 0)), (0, x3)]) rfl dX12_doubtful_53 ?_
        refine st_iinc (y := (x3 + 1)) (by decide) (i := 3) rfl rfl (lc' := [(2, 65), (0, x1), (0, (x2 + 0)), (0, (x3 + 1))]) rfl dX12_doubtful_54 ?_
        refine st_goto 20 (by decide) dX12_doubtful_57 ?_
        exact st_locals [(2, 65), (0, x1), (0, (x2 + 0)), (0, (x3 + 1))] ⟨Or.inr rfl, Or.inr rfl, Or.inr rfl, Or.inr rfl, trivial⟩ (k2 h1 h2 h3)
      · have h3 : 0 < (likesF (mem 65 27) (mem 79) (cueF (mem 80)) x3) := by omega
        refine st_iconst dX12_doubtful_47 ?_
        refine st_goto 52 (by decide) dX12_doubtful_48 ?_
        refine st_iadd dX12_doubtful_52 ?_
        refine st_istore_n (i := 2) rfl (by decide) (lc' := [(2, 65), (0, x1), (0, (x2 + 1)), (0, x3)]) rfl dX12_doubtful_53 ?_
        refine st_iinc (y := (x3 + 1)) (by decide) (i := 3) rfl rfl (lc' := [(2, 65), (0, x1), (0, (x2 + 1)), (0, (x3 + 1))]) rfl dX12_doubtful_54 ?_
        refine st_goto 20 (by decide) dX12_doubtful_57 ?_
        exact st_locals [(2, 65), (0, x1), (0, (x2 + 1)), (0, (x3 + 1))] ⟨Or.inr rfl, Or.inr rfl, Or.inr rfl, Or.inr rfl, trivial⟩ (k3 h1 h2 h3)
theorem cn_X12_spare {d : Nat} {P : Int → mmM → Prop} {mem : mmM} {x1 x2 : Int} (h : mmT bX12_spare d 0 0 (mQ 0 P) 0 [(2, 65), (0, x1), (0, x2), (9, 0)] [] mS mem) : con 0 bX12_spare d [(2, 65), (0, x1), (0, x2)] mem P := mmC_of [(2, 65), (0, x1), (0, x2), (9, 0)] ok_X12_spare.2.2.2.2 rfl (Nat.le_of_ble_eq_true rfl) h
theorem bk_X12_spare_0 {d : Nat} {P : Int → mmM → Prop} {mem : mmM} {x1 x2 : Int}
  (k1 : ¬ (mem 65 27) = 0 → (1 ≤ x1 ∧ x1 ≤ 8) → x1 ≤ ((mem 65 27) - 2) → (0 ≤ x2 ∧ x2 ≤ 1) → mmT bX12_spare d 0 0 (mQ 0 P) 40 [(2, 65), (0, x1), (0, x2), (0, 1)] [] mS mem)
  (q1 : (mem 65 27) = 0 → P (-1) mem)
  (q2 : ¬ (mem 65 27) = 0 → ¬ (1 ≤ x1 ∧ x1 ≤ 8) → P (-1) mem)
  (q3 : ¬ (mem 65 27) = 0 → (1 ≤ x1 ∧ x1 ≤ 8) → ((mem 65 27) - 2) < x1 → P (-1) mem)
  (q4 : ¬ (mem 65 27) = 0 → (1 ≤ x1 ∧ x1 ≤ 8) → x1 ≤ ((mem 65 27) - 2) → ¬ (0 ≤ x2 ∧ x2 ≤ 1) → P (-1) mem)
  (hd2 : 2 ≤ d := by omega)
  (s1 : ¬ (mem 65 27) = 0 → R32 x1 := by intros; first | omega | assumption | solve_by_elim)
  (s2 : ¬ (mem 65 27) = 0 → (1 ≤ x1 ∧ x1 ≤ 8) → R32 ((mem 65 27) - 2) := by intros; first | omega | assumption | solve_by_elim)
  (s3 : ¬ (mem 65 27) = 0 → (1 ≤ x1 ∧ x1 ≤ 8) → x1 ≤ ((mem 65 27) - 2) → R32 x2 := by intros; first | omega | assumption | solve_by_elim)
  : mmT bX12_spare d 0 0 (mQ 0 P) 0 [(2, 65), (0, x1), (0, x2), (9, 0)] [] mS mem := by
  refine st_aload_n (i := 0) rfl (t := 0) rfl (by decide) dX12_spare_0 ?_
  refine so_getI (v := (mem 65 27)) 65 27 fr_X12_268_11 rfl sh_65 rfl dX12_spare_1 (fun r1 => ?_)
  refine sr_if_eq 36 r1 (by decide) dX12_spare_4 (fun h1 => ?_) (fun h1 => ?_)
  · have h1 : (mem 65 27) = 0 := by omega
    refine st_iconst dX12_spare_36 ?_
    exact st_ireturn rfl dX12_spare_37 (mQ.ret (q1 h1))
  · have h1 : ¬ (mem 65 27) = 0 := by omega
    refine st_iload_n (i := 1) rfl rfl dX12_spare_7 ?_
    refine st_iconst dX12_spare_8 ?_
    refine st_bipush rfl dX12_spare_9 ?_
    refine st_callS (kc2 := 0) (ks2 := 0) (av := [(0, x1), (0, 1), (0, 8)]) mr_X12_229 ok_X12_in (c_X12_in mem x1 1 8 ((s1 h1)) (⟨by decide, by decide⟩) (⟨by decide, by decide⟩)) rfl rfl hd2 (Nat.le_refl 0) (Nat.le_refl 0) (Nat.le_of_ble_eq_true rfl) dX12_spare_11 (mQ.elim fun v1 m1 hp => ?_)
    obtain ⟨hpv, hpm⟩ := hp
    subst hpv
    have hpm := hpm.symm
    subst hpm
    refine so_ifeqB 36 (by decide) dX12_spare_14 (fun h2 => ?_) (fun h2 => ?_)
    · have h2 : ¬ (1 ≤ x1 ∧ x1 ≤ 8) := h2
      refine st_iconst dX12_spare_36 ?_
      exact st_ireturn rfl dX12_spare_37 (mQ.ret (q2 h1 h2))
    · have h2 : (1 ≤ x1 ∧ x1 ≤ 8) := h2
      refine st_aload_n (i := 0) rfl (t := 0) rfl (by decide) dX12_spare_17 ?_
      refine so_getI (v := (mem 65 27)) 65 27 fr_X12_268_11 rfl sh_65 rfl dX12_spare_18 (fun r2 => ?_)
      refine st_iconst dX12_spare_21 ?_
      refine st_isub dX12_spare_22 ?_
      refine st_iload_n (i := 1) rfl rfl dX12_spare_23 ?_
      refine sr_icmp_lt 36 (s2 h1 h2) (s1 h1) (by decide) dX12_spare_24 (fun h3 => ?_) (fun h3 => ?_)
      · have h3 : ((mem 65 27) - 2) < x1 := by omega
        refine st_iconst dX12_spare_36 ?_
        exact st_ireturn rfl dX12_spare_37 (mQ.ret (q3 h1 h2 h3))
      · have h3 : x1 ≤ ((mem 65 27) - 2) := by omega
        refine st_iload_n (i := 2) rfl rfl dX12_spare_27 ?_
        refine st_iconst dX12_spare_28 ?_
        refine st_iconst dX12_spare_29 ?_
        refine st_callS (kc2 := 0) (ks2 := 0) (av := [(0, x2), (0, 0), (0, 1)]) mr_X12_229 ok_X12_in (c_X12_in mem x2 0 1 ((s3 h1 h2 h3)) (⟨by decide, by decide⟩) (⟨by decide, by decide⟩)) rfl rfl hd2 (Nat.le_refl 0) (Nat.le_refl 0) (Nat.le_of_ble_eq_true rfl) dX12_spare_30 (mQ.elim fun v2 m2 hp => ?_)
        obtain ⟨hpv, hpm⟩ := hp
        subst hpv
        have hpm := hpm.symm
        subst hpm
        refine so_ifneB 38 (by decide) dX12_spare_33 (fun h4 => ?_) (fun h4 => ?_)
        · have h4 : (0 ≤ x2 ∧ x2 ≤ 1) := h4
          refine st_iconst dX12_spare_38 ?_
          refine st_istore_n (i := 3) rfl (by decide) (lc' := [(2, 65), (0, x1), (0, x2), (0, 1)]) rfl dX12_spare_39 ?_
          exact st_locals [(2, 65), (0, x1), (0, x2), (0, 1)] ⟨Or.inr rfl, Or.inr rfl, Or.inr rfl, Or.inr rfl, trivial⟩ (k1 h1 h2 h3 h4)
        · have h4 : ¬ (0 ≤ x2 ∧ x2 ≤ 1) := h4
          refine st_iconst dX12_spare_36 ?_
          exact st_ireturn rfl dX12_spare_37 (mQ.ret (q4 h1 h2 h3 h4))
theorem bk_X12_spare_40 {d : Nat} {P : Int → mmM → Prop} {mem : mmM} {x1 x2 x3 : Int}
  (k1 : (x3 + x1) < (mem 65 27) → ¬ (mem 80 (x3 - 1)) = (mem 80 ((x3 + x1) - 1)) → mmT bX12_spare d 0 0 (mQ 0 P) 40 [(2, 65), (0, x1), (0, x2), (0, (x3 + 1))] [] mS mem)
  (q1 : (mem 65 27) ≤ (x3 + x1) → P 1 mem)
  (q2 : (x3 + x1) < (mem 65 27) → (mem 80 (x3 - 1)) = (mem 80 ((x3 + x1) - 1)) → ¬ x2 = 0 → P 0 mem)
  (q3 : (x3 + x1) < (mem 65 27) → (mem 80 (x3 - 1)) = (mem 80 ((x3 + x1) - 1)) → x2 = 0 → P x3 mem)
  (s1 : R32 (x3 + x1) := by intros; first | omega | assumption | solve_by_elim)
  (s2 : (x3 + x1) < (mem 65 27) → 0 ≤ (x3 - 1) ∧ (x3 - 1) < 24 := by intros; first | omega | assumption | solve_by_elim)
  (s3 : (x3 + x1) < (mem 65 27) → 0 ≤ ((x3 + x1) - 1) ∧ ((x3 + x1) - 1) < 24 := by intros; first | omega | assumption | solve_by_elim)
  (s4 : (x3 + x1) < (mem 65 27) → (mem 80 (x3 - 1)) = (mem 80 ((x3 + x1) - 1)) → R32 x2 := by intros; first | omega | assumption | solve_by_elim)
  : mmT bX12_spare d 0 0 (mQ 0 P) 40 [(2, 65), (0, x1), (0, x2), (0, x3)] [] mS mem := by
  refine st_iload_n (i := 3) rfl rfl dX12_spare_40 ?_
  refine st_iload_n (i := 1) rfl rfl dX12_spare_41 ?_
  refine st_iadd dX12_spare_42 ?_
  refine st_aload_n (i := 0) rfl (t := 0) rfl (by decide) dX12_spare_43 ?_
  refine so_getI (v := (mem 65 27)) 65 27 fr_X12_268_11 rfl sh_65 rfl dX12_spare_44 (fun r1 => ?_)
  refine sr_icmp_ge 87 s1 r1 (by decide) dX12_spare_47 (fun h1 => ?_) (fun h1 => ?_)
  · have h1 : (mem 65 27) ≤ (x3 + x1) := by omega
    refine st_iconst dX12_spare_87 ?_
    exact st_ireturn rfl dX12_spare_88 (mQ.ret (q1 h1))
  · have h1 : (x3 + x1) < (mem 65 27) := by omega
    refine st_aload_n (i := 0) rfl (t := 0) rfl (by decide) dX12_spare_50 ?_
    refine so_getA 65 23 fr_X12_52_11 rfl sh_65 fx_65_23 dX12_spare_51 ?_
    refine st_iload_n (i := 3) rfl rfl dX12_spare_54 ?_
    refine st_iconst dX12_spare_55 ?_
    refine st_isub dX12_spare_56 ?_
    refine so_iald (v := (mem 80 (x3 - 1))) 80 rfl sh_80 (by decide) (s2 h1) rfl dX12_spare_57 (fun r2 => ?_)
    refine st_aload_n (i := 0) rfl (t := 0) rfl (by decide) dX12_spare_58 ?_
    refine so_getA 65 23 fr_X12_52_11 rfl sh_65 fx_65_23 dX12_spare_59 ?_
    refine st_iload_n (i := 3) rfl rfl dX12_spare_62 ?_
    refine st_iload_n (i := 1) rfl rfl dX12_spare_63 ?_
    refine st_iadd dX12_spare_64 ?_
    refine st_iconst dX12_spare_65 ?_
    refine st_isub dX12_spare_66 ?_
    refine so_iald (v := (mem 80 ((x3 + x1) - 1))) 80 rfl sh_80 (by decide) (s3 h1) rfl dX12_spare_67 (fun r3 => ?_)
    refine sr_icmp_ne 81 r2 r3 (by decide) dX12_spare_68 (fun h2 => ?_) (fun h2 => ?_)
    · have h2 : ¬ (mem 80 (x3 - 1)) = (mem 80 ((x3 + x1) - 1)) := by omega
      refine st_iinc (y := (x3 + 1)) (by decide) (i := 3) rfl rfl (lc' := [(2, 65), (0, x1), (0, x2), (0, (x3 + 1))]) rfl dX12_spare_81 ?_
      refine st_goto 40 (by decide) dX12_spare_84 ?_
      exact st_locals [(2, 65), (0, x1), (0, x2), (0, (x3 + 1))] ⟨Or.inr rfl, Or.inr rfl, Or.inr rfl, Or.inr rfl, trivial⟩ (k1 h1 h2)
    · have h2 : (mem 80 (x3 - 1)) = (mem 80 ((x3 + x1) - 1)) := by omega
      refine st_iload_n (i := 2) rfl rfl dX12_spare_71 ?_
      refine sr_if_ne 79 (s4 h1 h2) (by decide) dX12_spare_72 (fun h3 => ?_) (fun h3 => ?_)
      · have h3 : ¬ x2 = 0 := by omega
        refine st_iconst dX12_spare_79 ?_
        exact st_ireturn rfl dX12_spare_80 (mQ.ret (q2 h1 h2 h3))
      · have h3 : x2 = 0 := by omega
        refine st_iload_n (i := 3) rfl rfl dX12_spare_75 ?_
        refine st_goto 80 (by decide) dX12_spare_76 ?_
        exact st_ireturn rfl dX12_spare_80 (mQ.ret (q3 h1 h2 h3))
theorem cn_X12_reword {d : Nat} {P : Int → mmM → Prop} {mem : mmM} {x1 : Int} (h : mmT bX12_reword d 0 0 (mQ 0 P) 0 [(2, 65), (0, x1), (9, 0), (9, 0), (9, 0), (9, 0), (9, 0)] [] mS mem) : con 0 bX12_reword d [(2, 65), (0, x1)] mem P := mmC_of [(2, 65), (0, x1), (9, 0), (9, 0), (9, 0), (9, 0), (9, 0)] ok_X12_reword.2.2.2.2 rfl (Nat.le_of_ble_eq_true rfl) h
theorem bk_X12_reword_0 {d : Nat} {P : Int → mmM → Prop} {mem : mmM} {x1 : Int}
  (k1 : ¬ (mem 65 27) = 0 → (0 ≤ x1 ∧ x1 ≤ 1) → mmT bX12_reword d 0 0 (mQ 0 P) 27 [(2, 65), (0, x1), (0, 0), (0, (-1)), (0, 1), (9, 0), (9, 0)] [] mS mem)
  (q1 : (mem 65 27) = 0 → P (-1000000) mem)
  (q2 : ¬ (mem 65 27) = 0 → ¬ (0 ≤ x1 ∧ x1 ≤ 1) → P (-1000000) mem)
  (hd2 : 2 ≤ d := by omega)
  (s1 : ¬ (mem 65 27) = 0 → R32 x1 := by intros; first | omega | assumption | solve_by_elim)
  : mmT bX12_reword d 0 0 (mQ 0 P) 0 [(2, 65), (0, x1), (9, 0), (9, 0), (9, 0), (9, 0), (9, 0)] [] mS mem := by
  refine st_aload_n (i := 0) rfl (t := 0) rfl (by decide) dX12_reword_0 ?_
  refine so_getI (v := (mem 65 27)) 65 27 fr_X12_268_11 rfl sh_65 rfl dX12_reword_1 (fun r1 => ?_)
  refine sr_if_eq 16 r1 (by decide) dX12_reword_4 (fun h1 => ?_) (fun h1 => ?_)
  · have h1 : (mem 65 27) = 0 := by omega
    refine st_ldcw cw_X12_329 dX12_reword_16 ?_
    exact st_ireturn rfl dX12_reword_19 (mQ.ret (q1 h1))
  · have h1 : ¬ (mem 65 27) = 0 := by omega
    refine st_iload_n (i := 1) rfl rfl dX12_reword_7 ?_
    refine st_iconst dX12_reword_8 ?_
    refine st_iconst dX12_reword_9 ?_
    refine st_callS (kc2 := 0) (ks2 := 0) (av := [(0, x1), (0, 0), (0, 1)]) mr_X12_229 ok_X12_in (c_X12_in mem x1 0 1 ((s1 h1)) (⟨by decide, by decide⟩) (⟨by decide, by decide⟩)) rfl rfl hd2 (Nat.le_refl 0) (Nat.le_refl 0) (Nat.le_of_ble_eq_true rfl) dX12_reword_10 (mQ.elim fun v1 m1 hp => ?_)
    obtain ⟨hpv, hpm⟩ := hp
    subst hpv
    have hpm := hpm.symm
    subst hpm
    refine so_ifneB 20 (by decide) dX12_reword_13 (fun h2 => ?_) (fun h2 => ?_)
    · have h2 : (0 ≤ x1 ∧ x1 ≤ 1) := h2
      refine st_iconst dX12_reword_20 ?_
      refine st_istore_n (i := 2) rfl (by decide) (lc' := [(2, 65), (0, x1), (0, 0), (9, 0), (9, 0), (9, 0), (9, 0)]) rfl dX12_reword_21 ?_
      refine st_iconst dX12_reword_22 ?_
      refine st_istore_n (i := 3) rfl (by decide) (lc' := [(2, 65), (0, x1), (0, 0), (0, (-1)), (9, 0), (9, 0), (9, 0)]) rfl dX12_reword_23 ?_
      refine st_iconst dX12_reword_24 ?_
      refine st_istore (by decide) (lc' := [(2, 65), (0, x1), (0, 0), (0, (-1)), (0, 1), (9, 0), (9, 0)]) rfl dX12_reword_25 ?_
      exact st_locals [(2, 65), (0, x1), (0, 0), (0, (-1)), (0, 1), (9, 0), (9, 0)] ⟨Or.inr rfl, Or.inr rfl, Or.inr rfl, Or.inr rfl, Or.inr rfl, Or.inl rfl, Or.inl rfl, trivial⟩ (k1 h1 h2)
    · have h2 : ¬ (0 ≤ x1 ∧ x1 ≤ 1) := h2
      refine st_ldcw cw_X12_329 dX12_reword_16 ?_
      exact st_ireturn rfl dX12_reword_19 (mQ.ret (q2 h1 h2))
theorem bk_X12_reword_27 {d : Nat} {P : Int → mmM → Prop} {mem : mmM} {x1 x2 x3 x4 : Int}
  (k1 : x4 < (mem 65 27) → mmT bX12_reword d 0 0 (mQ 0 P) 42 [(2, 65), (0, x1), (0, x2), (0, x3), (0, x4), (0, 0), (0, 0)] [] mS mem)
  (q1 : (mem 65 27) ≤ x4 → ¬ x1 = 0 → P x3 mem)
  (q2 : (mem 65 27) ≤ x4 → x1 = 0 → P x2 mem)
  (s1 : R32 x4 := by intros; first | omega | assumption | solve_by_elim)
  (s2 : (mem 65 27) ≤ x4 → R32 x1 := by intros; first | omega | assumption | solve_by_elim)
  : mmT bX12_reword d 0 0 (mQ 0 P) 27 [(2, 65), (0, x1), (0, x2), (0, x3), (0, x4), (9, 0), (9, 0)] [] mS mem := by
  refine st_iload rfl dX12_reword_27 ?_
  refine st_aload_n (i := 0) rfl (t := 0) rfl (by decide) dX12_reword_29 ?_
  refine so_getI (v := (mem 65 27)) 65 27 fr_X12_268_11 rfl sh_65 rfl dX12_reword_30 (fun r1 => ?_)
  refine sr_icmp_ge 116 s1 r1 (by decide) dX12_reword_33 (fun h1 => ?_) (fun h1 => ?_)
  · have h1 : (mem 65 27) ≤ x4 := by omega
    refine st_iload_n (i := 1) rfl rfl dX12_reword_116 ?_
    refine sr_if_ne 124 (s2 h1) (by decide) dX12_reword_117 (fun h2 => ?_) (fun h2 => ?_)
    · have h2 : ¬ x1 = 0 := by omega
      refine st_iload_n (i := 3) rfl rfl dX12_reword_124 ?_
      exact st_ireturn rfl dX12_reword_125 (mQ.ret (q1 h1 h2))
    · have h2 : x1 = 0 := by omega
      refine st_iload_n (i := 2) rfl rfl dX12_reword_120 ?_
      refine st_goto 125 (by decide) dX12_reword_121 ?_
      exact st_ireturn rfl dX12_reword_125 (mQ.ret (q2 h1 h2))
  · have h1 : x4 < (mem 65 27) := by omega
    refine st_iconst dX12_reword_36 ?_
    refine st_istore (by decide) (lc' := [(2, 65), (0, x1), (0, x2), (0, x3), (0, x4), (0, 0), (9, 0)]) rfl dX12_reword_37 ?_
    refine st_iconst dX12_reword_39 ?_
    refine st_istore (by decide) (lc' := [(2, 65), (0, x1), (0, x2), (0, x3), (0, x4), (0, 0), (0, 0)]) rfl dX12_reword_40 ?_
    exact st_locals [(2, 65), (0, x1), (0, x2), (0, x3), (0, x4), (0, 0), (0, 0)] ⟨Or.inr rfl, Or.inr rfl, Or.inr rfl, Or.inr rfl, Or.inr rfl, Or.inr rfl, Or.inr rfl, trivial⟩ (k1 h1)
theorem bk_X12_reword_42 {d : Nat} {P : Int → mmM → Prop} {mem : mmM} {x1 x2 x3 x4 x5 x6 : Int}
  (k1 : x4 ≤ x6 → x5 = 0 → x5 = 0 → mmT bX12_reword d 0 0 (mQ 0 P) 27 [(2, 65), (0, x1), (0, (x2 + 0)), (0, x3), (0, (x4 + 1)), (9, 0), (9, 0)] [] mS mem)
  (k2 : x4 ≤ x6 → x5 = 0 → ¬ x5 = 0 → mmT bX12_reword d 0 0 (mQ 0 P) 27 [(2, 65), (0, x1), (0, (x2 + 1)), (0, x3), (0, (x4 + 1)), (9, 0), (9, 0)] [] mS mem)
  (k3 : x4 ≤ x6 → ¬ x5 = 0 → ¬ x3 = (-1) → x5 = 0 → mmT bX12_reword d 0 0 (mQ 0 P) 27 [(2, 65), (0, x1), (0, (x2 + 0)), (0, x3), (0, (x4 + 1)), (9, 0), (9, 0)] [] mS mem)
  (k4 : x4 ≤ x6 → ¬ x5 = 0 → ¬ x3 = (-1) → ¬ x5 = 0 → mmT bX12_reword d 0 0 (mQ 0 P) 27 [(2, 65), (0, x1), (0, (x2 + 1)), (0, x3), (0, (x4 + 1)), (9, 0), (9, 0)] [] mS mem)
  (k5 : x4 ≤ x6 → ¬ x5 = 0 → x3 = (-1) → x5 = 0 → mmT bX12_reword d 0 0 (mQ 0 P) 27 [(2, 65), (0, x1), (0, (x2 + 0)), (0, (x4 - 1)), (0, (x4 + 1)), (9, 0), (9, 0)] [] mS mem)
  (k6 : x4 ≤ x6 → ¬ x5 = 0 → x3 = (-1) → ¬ x5 = 0 → mmT bX12_reword d 0 0 (mQ 0 P) 27 [(2, 65), (0, x1), (0, (x2 + 1)), (0, (x4 - 1)), (0, (x4 + 1)), (9, 0), (9, 0)] [] mS mem)
  (k7 : x6 < x4 → ¬ x5 = 0 → mmT bX12_reword d 0 0 (mQ 0 P) 42 [(2, 65), (0, x1), (0, x2), (0, x3), (0, x4), (0, 1), (0, (x6 + 1))] [] mS mem)
  (k8 : x6 < x4 → x5 = 0 → ¬ (likeM (mem 79) (cueF (mem 80)) x4 x6) → mmT bX12_reword d 0 0 (mQ 0 P) 42 [(2, 65), (0, x1), (0, x2), (0, x3), (0, x4), (0, 0), (0, (x6 + 1))] [] mS mem)
  (k9 : x6 < x4 → x5 = 0 → (likeM (mem 79) (cueF (mem 80)) x4 x6) → mmT bX12_reword d 0 0 (mQ 0 P) 42 [(2, 65), (0, x1), (0, x2), (0, x3), (0, x4), (0, 1), (0, (x6 + 1))] [] mS mem)
  (hd3 : 3 ≤ d := by omega)
  (s1 : R32 x6 := by intros; first | omega | assumption | solve_by_elim)
  (s2 : R32 x4 := by intros; first | omega | assumption | solve_by_elim)
  (s3 : x4 ≤ x6 → R32 x5 := by intros; first | omega | assumption | solve_by_elim)
  (s4 : x4 ≤ x6 → ¬ x5 = 0 → R32 x3 := by intros; first | omega | assumption | solve_by_elim)
  (s5 : x6 < x4 → R32 x5 := by intros; first | omega | assumption | solve_by_elim)
  (s6 : x6 < x4 → x5 = 0 → 0 ≤ x4 ∧ x4 < 24 := by intros; first | omega | assumption | solve_by_elim)
  (s7 : x6 < x4 → x5 = 0 → 0 ≤ x6 ∧ x6 < 24 := by intros; first | omega | assumption | solve_by_elim)
  (s8 : x6 < x4 → x5 = 0 → playM mem := by intros; first | omega | assumption | solve_by_elim)
  : mmT bX12_reword d 0 0 (mQ 0 P) 42 [(2, 65), (0, x1), (0, x2), (0, x3), (0, x4), (0, x5), (0, x6)] [] mS mem := by
  refine st_iload rfl dX12_reword_42 ?_
  refine st_iload rfl dX12_reword_44 ?_
  refine sr_icmp_ge 78 s1 s2 (by decide) dX12_reword_46 (fun h1 => ?_) (fun h1 => ?_)
  · have h1 : x4 ≤ x6 := by omega
    refine st_iload rfl dX12_reword_78 ?_
    refine sr_if_eq 95 (s3 h1) (by decide) dX12_reword_80 (fun h2 => ?_) (fun h2 => ?_)
    · have h2 : x5 = 0 := by omega
      refine st_iload_n (i := 3) rfl rfl dX12_reword_95 ?_
      refine st_istore_n (i := 3) rfl (by decide) (lc' := [(2, 65), (0, x1), (0, x2), (0, x3), (0, x4), (0, x5), (0, x6)]) rfl dX12_reword_96 ?_
      refine st_iload_n (i := 2) rfl rfl dX12_reword_97 ?_
      refine st_iload rfl dX12_reword_98 ?_
      refine sr_if_eq 107 (s3 h1) (by decide) dX12_reword_100 (fun h3 => ?_) (fun h3 => ?_)
      · have h3 : x5 = 0 := by omega
        refine st_iconst dX12_reword_107 ?_
        refine st_iadd dX12_reword_108 ?_
        refine st_istore_n (i := 2) rfl (by decide) (lc' := [(2, 65), (0, x1), (0, (x2 + 0)), (0, x3), (0, x4), (0, x5), (0, x6)]) rfl dX12_reword_109 ?_
        refine st_iinc (y := (x4 + 1)) (by decide) (i := 4) rfl rfl (lc' := [(2, 65), (0, x1), (0, (x2 + 0)), (0, x3), (0, (x4 + 1)), (0, x5), (0, x6)]) rfl dX12_reword_110 ?_
        refine st_goto 27 (by decide) dX12_reword_113 ?_
        exact st_locals [(2, 65), (0, x1), (0, (x2 + 0)), (0, x3), (0, (x4 + 1)), (9, 0), (9, 0)] ⟨Or.inr rfl, Or.inr rfl, Or.inr rfl, Or.inr rfl, Or.inr rfl, Or.inl rfl, Or.inl rfl, trivial⟩ (k1 h1 h2 h3)
      · have h3 : ¬ x5 = 0 := by omega
        refine st_iconst dX12_reword_103 ?_
        refine st_goto 108 (by decide) dX12_reword_104 ?_
        refine st_iadd dX12_reword_108 ?_
        refine st_istore_n (i := 2) rfl (by decide) (lc' := [(2, 65), (0, x1), (0, (x2 + 1)), (0, x3), (0, x4), (0, x5), (0, x6)]) rfl dX12_reword_109 ?_
        refine st_iinc (y := (x4 + 1)) (by decide) (i := 4) rfl rfl (lc' := [(2, 65), (0, x1), (0, (x2 + 1)), (0, x3), (0, (x4 + 1)), (0, x5), (0, x6)]) rfl dX12_reword_110 ?_
        refine st_goto 27 (by decide) dX12_reword_113 ?_
        exact st_locals [(2, 65), (0, x1), (0, (x2 + 1)), (0, x3), (0, (x4 + 1)), (9, 0), (9, 0)] ⟨Or.inr rfl, Or.inr rfl, Or.inr rfl, Or.inr rfl, Or.inr rfl, Or.inl rfl, Or.inl rfl, trivial⟩ (k2 h1 h2 h3)
    · have h2 : ¬ x5 = 0 := by omega
      refine st_iload_n (i := 3) rfl rfl dX12_reword_83 ?_
      refine st_iconst dX12_reword_84 ?_
      refine sr_icmp_ne 95 (s4 h1 h2) ⟨by decide, by decide⟩ (by decide) dX12_reword_85 (fun h4 => ?_) (fun h4 => ?_)
      · have h4 : ¬ x3 = (-1) := by omega
        refine st_iload_n (i := 3) rfl rfl dX12_reword_95 ?_
        refine st_istore_n (i := 3) rfl (by decide) (lc' := [(2, 65), (0, x1), (0, x2), (0, x3), (0, x4), (0, x5), (0, x6)]) rfl dX12_reword_96 ?_
        refine st_iload_n (i := 2) rfl rfl dX12_reword_97 ?_
        refine st_iload rfl dX12_reword_98 ?_
        refine sr_if_eq 107 (s3 h1) (by decide) dX12_reword_100 (fun h5 => ?_) (fun h5 => ?_)
        · have h5 : x5 = 0 := by omega
          refine st_iconst dX12_reword_107 ?_
          refine st_iadd dX12_reword_108 ?_
          refine st_istore_n (i := 2) rfl (by decide) (lc' := [(2, 65), (0, x1), (0, (x2 + 0)), (0, x3), (0, x4), (0, x5), (0, x6)]) rfl dX12_reword_109 ?_
          refine st_iinc (y := (x4 + 1)) (by decide) (i := 4) rfl rfl (lc' := [(2, 65), (0, x1), (0, (x2 + 0)), (0, x3), (0, (x4 + 1)), (0, x5), (0, x6)]) rfl dX12_reword_110 ?_
          refine st_goto 27 (by decide) dX12_reword_113 ?_
          exact st_locals [(2, 65), (0, x1), (0, (x2 + 0)), (0, x3), (0, (x4 + 1)), (9, 0), (9, 0)] ⟨Or.inr rfl, Or.inr rfl, Or.inr rfl, Or.inr rfl, Or.inr rfl, Or.inl rfl, Or.inl rfl, trivial⟩ (k3 h1 h2 h4 h5)
        · have h5 : ¬ x5 = 0 := by omega
          refine st_iconst dX12_reword_103 ?_
          refine st_goto 108 (by decide) dX12_reword_104 ?_
          refine st_iadd dX12_reword_108 ?_
          refine st_istore_n (i := 2) rfl (by decide) (lc' := [(2, 65), (0, x1), (0, (x2 + 1)), (0, x3), (0, x4), (0, x5), (0, x6)]) rfl dX12_reword_109 ?_
          refine st_iinc (y := (x4 + 1)) (by decide) (i := 4) rfl rfl (lc' := [(2, 65), (0, x1), (0, (x2 + 1)), (0, x3), (0, (x4 + 1)), (0, x5), (0, x6)]) rfl dX12_reword_110 ?_
          refine st_goto 27 (by decide) dX12_reword_113 ?_
          exact st_locals [(2, 65), (0, x1), (0, (x2 + 1)), (0, x3), (0, (x4 + 1)), (9, 0), (9, 0)] ⟨Or.inr rfl, Or.inr rfl, Or.inr rfl, Or.inr rfl, Or.inr rfl, Or.inl rfl, Or.inl rfl, trivial⟩ (k4 h1 h2 h4 h5)
      · have h4 : x3 = (-1) := by omega
        refine st_iload rfl dX12_reword_88 ?_
        refine st_iconst dX12_reword_90 ?_
        refine st_isub dX12_reword_91 ?_
        refine st_goto 96 (by decide) dX12_reword_92 ?_
        refine st_istore_n (i := 3) rfl (by decide) (lc' := [(2, 65), (0, x1), (0, x2), (0, (x4 - 1)), (0, x4), (0, x5), (0, x6)]) rfl dX12_reword_96 ?_
        refine st_iload_n (i := 2) rfl rfl dX12_reword_97 ?_
        refine st_iload rfl dX12_reword_98 ?_
        refine sr_if_eq 107 (s3 h1) (by decide) dX12_reword_100 (fun h6 => ?_) (fun h6 => ?_)
        · have h6 : x5 = 0 := by omega
          refine st_iconst dX12_reword_107 ?_
          refine st_iadd dX12_reword_108 ?_
          refine st_istore_n (i := 2) rfl (by decide) (lc' := [(2, 65), (0, x1), (0, (x2 + 0)), (0, (x4 - 1)), (0, x4), (0, x5), (0, x6)]) rfl dX12_reword_109 ?_
          refine st_iinc (y := (x4 + 1)) (by decide) (i := 4) rfl rfl (lc' := [(2, 65), (0, x1), (0, (x2 + 0)), (0, (x4 - 1)), (0, (x4 + 1)), (0, x5), (0, x6)]) rfl dX12_reword_110 ?_
          refine st_goto 27 (by decide) dX12_reword_113 ?_
          exact st_locals [(2, 65), (0, x1), (0, (x2 + 0)), (0, (x4 - 1)), (0, (x4 + 1)), (9, 0), (9, 0)] ⟨Or.inr rfl, Or.inr rfl, Or.inr rfl, Or.inr rfl, Or.inr rfl, Or.inl rfl, Or.inl rfl, trivial⟩ (k5 h1 h2 h4 h6)
        · have h6 : ¬ x5 = 0 := by omega
          refine st_iconst dX12_reword_103 ?_
          refine st_goto 108 (by decide) dX12_reword_104 ?_
          refine st_iadd dX12_reword_108 ?_
          refine st_istore_n (i := 2) rfl (by decide) (lc' := [(2, 65), (0, x1), (0, (x2 + 1)), (0, (x4 - 1)), (0, x4), (0, x5), (0, x6)]) rfl dX12_reword_109 ?_
          refine st_iinc (y := (x4 + 1)) (by decide) (i := 4) rfl rfl (lc' := [(2, 65), (0, x1), (0, (x2 + 1)), (0, (x4 - 1)), (0, (x4 + 1)), (0, x5), (0, x6)]) rfl dX12_reword_110 ?_
          refine st_goto 27 (by decide) dX12_reword_113 ?_
          exact st_locals [(2, 65), (0, x1), (0, (x2 + 1)), (0, (x4 - 1)), (0, (x4 + 1)), (9, 0), (9, 0)] ⟨Or.inr rfl, Or.inr rfl, Or.inr rfl, Or.inr rfl, Or.inr rfl, Or.inl rfl, Or.inl rfl, trivial⟩ (k6 h1 h2 h4 h6)
  · have h1 : x6 < x4 := by omega
    refine st_iload rfl dX12_reword_49 ?_
    refine sr_if_ne 65 (s5 h1) (by decide) dX12_reword_51 (fun h7 => ?_) (fun h7 => ?_)
    · have h7 : ¬ x5 = 0 := by omega
      refine st_iconst dX12_reword_65 ?_
      refine st_goto 70 (by decide) dX12_reword_66 ?_
      refine st_istore (by decide) (lc' := [(2, 65), (0, x1), (0, x2), (0, x3), (0, x4), (0, 1), (0, x6)]) rfl dX12_reword_70 ?_
      refine st_iinc (y := (x6 + 1)) (by decide) (i := 6) rfl rfl (lc' := [(2, 65), (0, x1), (0, x2), (0, x3), (0, x4), (0, 1), (0, (x6 + 1))]) rfl dX12_reword_72 ?_
      refine st_goto 42 (by decide) dX12_reword_75 ?_
      exact st_locals [(2, 65), (0, x1), (0, x2), (0, x3), (0, x4), (0, 1), (0, (x6 + 1))] ⟨Or.inr rfl, Or.inr rfl, Or.inr rfl, Or.inr rfl, Or.inr rfl, Or.inr rfl, Or.inr rfl, trivial⟩ (k7 h1 h7)
    · have h7 : x5 = 0 := by omega
      refine st_aload_n (i := 0) rfl (t := 0) rfl (by decide) dX12_reword_54 ?_
      refine st_iload rfl dX12_reword_55 ?_
      refine st_iload rfl dX12_reword_57 ?_
      refine st_callV (kc2 := 0) (ks2 := 0) (av := [(0, x4), (0, x6)]) 65 11 mr_X12_300 ok_X12_areLike (c_X12_areLike mem x4 x6 ((s6 h1 h7)) ((s7 h1 h7)) ((s8 h1 h7))) rfl sh_65 ⟨_, rfl, rfl, by decide⟩ rfl rfl hd3 (Nat.le_refl 0) (Nat.le_refl 0) (Nat.le_of_ble_eq_true rfl) dX12_reword_59 (mQ.elim fun v1 m1 hp => ?_)
      obtain ⟨hpv, hpm⟩ := hp
      subst hpv
      have hpm := hpm.symm
      subst hpm
      refine so_ifeqB 69 (by decide) dX12_reword_62 (fun h8 => ?_) (fun h8 => ?_)
      · have h8 : ¬ (likeM (mem 79) (cueF (mem 80)) x4 x6) := h8
        refine st_iconst dX12_reword_69 ?_
        refine st_istore (by decide) (lc' := [(2, 65), (0, x1), (0, x2), (0, x3), (0, x4), (0, 0), (0, x6)]) rfl dX12_reword_70 ?_
        refine st_iinc (y := (x6 + 1)) (by decide) (i := 6) rfl rfl (lc' := [(2, 65), (0, x1), (0, x2), (0, x3), (0, x4), (0, 0), (0, (x6 + 1))]) rfl dX12_reword_72 ?_
        refine st_goto 42 (by decide) dX12_reword_75 ?_
        exact st_locals [(2, 65), (0, x1), (0, x2), (0, x3), (0, x4), (0, 0), (0, (x6 + 1))] ⟨Or.inr rfl, Or.inr rfl, Or.inr rfl, Or.inr rfl, Or.inr rfl, Or.inr rfl, Or.inr rfl, trivial⟩ (k8 h1 h7 h8)
      · have h8 : (likeM (mem 79) (cueF (mem 80)) x4 x6) := h8
        refine st_iconst dX12_reword_65 ?_
        refine st_goto 70 (by decide) dX12_reword_66 ?_
        refine st_istore (by decide) (lc' := [(2, 65), (0, x1), (0, x2), (0, x3), (0, x4), (0, 1), (0, x6)]) rfl dX12_reword_70 ?_
        refine st_iinc (y := (x6 + 1)) (by decide) (i := 6) rfl rfl (lc' := [(2, 65), (0, x1), (0, x2), (0, x3), (0, x4), (0, 1), (0, (x6 + 1))]) rfl dX12_reword_72 ?_
        refine st_goto 42 (by decide) dX12_reword_75 ?_
        exact st_locals [(2, 65), (0, x1), (0, x2), (0, x3), (0, x4), (0, 1), (0, (x6 + 1))] ⟨Or.inr rfl, Or.inr rfl, Or.inr rfl, Or.inr rfl, Or.inr rfl, Or.inr rfl, Or.inr rfl, trivial⟩ (k9 h1 h7 h8)
theorem c_X12_silence (mem : mmM) (x1 : Int) (h1 : R32 x1) (hp : playM mem) : con 0 bX12_silence 3 [(2, 65), (0, x1)] mem (fun v m => v = (if mem 65 27 = 0 ∨ ¬ (0 ≤ x1 ∧ x1 < 8) then -1 else silF (mem 65 27) (mem 79) (mem 81) x1) ∧ m = mem) := by
  have hn := hp.1
  refine cn_X12_silence (bk_X12_silence_0 (fun g g2 => ?_) (fun g => ⟨?_, rfl⟩) (fun g g2 => ⟨?_, rfl⟩))
  · rw [if_neg (by omega)]
    refine loop_up (n := mem 65 27) (fun i => ∀ p q, (p, q) = foldTo (fun (p : Int × Int) i => if mem 79 i = x1 then (max p.1 p.2, 0) else if p.2 = -1 then p else (p.1, p.2 + mem 81 i)) (-1, -1) i.toNat → (-1 ≤ p ∧ p ≤ 100 * i) → (-1 ≤ q ∧ q ≤ 100 * i) → mmT bX12_silence 3 0 0 (mQ 0 (fun v m => v = silF (mem 65 27) (mem 79) (mem 81) x1 ∧ m = mem)) 23 [(2, 65), (0, x1), (0, p), (0, q), (0, i)] [] mS mem) (fun i h0 h1 ih p q ha hp1 hq => ?_) 0 (by omega) (by omega) (-1) (-1) rfl (by omega) (by omega)
    have hli := hp.2 i h0
    refine bk_X12_silence_23 (fun g g2 g3 => ih g _ _ ?_ (by omega) (by omega)) (fun g g2 g3 => ih g _ _ ?_ (by omega) (by omega)) (fun g g2 => ih g _ _ ?_ (by omega) (by omega)) (fun g => ⟨?_, rfl⟩)
    · rw [foldTo_step _ _ h0, ← ha, if_neg g2, if_neg g3]
    · rw [foldTo_step _ _ h0, ← ha, if_neg g2, if_pos g3, Int.add_zero]
    · rw [foldTo_step _ _ h0, ← ha, if_pos g2]
    · unfold silF
      rw [show i = mem 65 27 by omega] at ha
      rw [← ha]
  · rw [if_pos (by omega)]
  · rw [if_pos (by omega)]
theorem c_X12_doubtful (mem : mmM) (x1 : Int) (h1 : R32 x1) (hp : playM mem) : con 0 bX12_doubtful 4 [(2, 65), (0, x1)] mem (fun v m => v = (if mem 65 27 = 0 ∨ ¬ (0 ≤ x1 ∧ x1 < 8) then -1 else dbtF (mem 65 27) (mem 79) (likesF (mem 65 27) (mem 79) (cueF (mem 80))) x1) ∧ m = mem) := by
  have hn := hp.1
  refine cn_X12_doubtful (bk_X12_doubtful_0 (fun g g2 => ?_) (fun g => ⟨?_, rfl⟩) (fun g g2 => ⟨?_, rfl⟩))
  · rw [if_neg (by omega)]
    refine loop_up (n := mem 65 27) (fun i => ∀ acc, acc = sumTo (fun i => b2i (mem 79 i = x1 ∧ 0 < likesF (mem 65 27) (mem 79) (cueF (mem 80)) i)) i.toNat → mmT bX12_doubtful 4 0 0 (mQ 0 (fun v m => v = dbtF (mem 65 27) (mem 79) (likesF (mem 65 27) (mem 79) (cueF (mem 80))) x1 ∧ m = mem)) 20 [(2, 65), (0, x1), (0, acc), (0, i)] [] mS mem) (fun i h0 h1 ih acc ha => ?_) 0 (by omega) (by omega) 0 rfl
    refine bk_X12_doubtful_20 (fun g g2 => ih g _ ?_) (fun g g2 g3 => ih g _ ?_) (fun g g2 g3 => ih g _ ?_) (fun g => ⟨?_, rfl⟩)
    · rw [sumTo_step _ h0, ← ha, b2i_0 (by omega)]
    · rw [sumTo_step _ h0, ← ha, b2i_0 (by omega)]
    · rw [sumTo_step _ h0, ← ha, b2i_1 (by omega)]
    · rw [ha, show i = mem 65 27 by omega]
      rfl
  · rw [if_pos (by omega)]
  · rw [if_pos (by omega)]
theorem c_X12_spare (mem : mmM) (x1 x2 : Int) (h1 : R32 x1) (h2 : R32 x2) (hp : playM mem) : con 0 bX12_spare 2 [(2, 65), (0, x1), (0, x2)] mem (fun v m => v = (if mem 65 27 = 0 ∨ ¬ (1 ≤ x1 ∧ x1 ≤ 8) ∨ mem 65 27 - 2 < x1 ∨ ¬ (0 ≤ x2 ∧ x2 ≤ 1) then -1 else if upFrom (fun i => decide (cueF (mem 80) (i + x1) = cueF (mem 80) i)) 1 (mem 65 27 - 1 - x1).toNat = -1 then 1 else if x2 = 0 then upFrom (fun i => decide (cueF (mem 80) (i + x1) = cueF (mem 80) i)) 1 (mem 65 27 - 1 - x1).toNat else 0) ∧ m = mem) := by
  have hn := hp.1
  refine cn_X12_spare (bk_X12_spare_0 (fun g g2 g3 g4 => ?_) (fun g => ⟨?_, rfl⟩) (fun g g2 => ⟨?_, rfl⟩) (fun g g2 g3 => ⟨?_, rfl⟩) (fun g g2 g3 g4 => ⟨?_, rfl⟩))
  · rw [if_neg (by omega)]
    have key : ∀ (k : Nat) (i : Int), 1 ≤ i → k = (mem 65 27 - 1 - x1 + 1 - i).toNat → i ≤ mem 65 27 - x1 → upFrom (fun i => decide (cueF (mem 80) (i + x1) = cueF (mem 80) i)) i k = upFrom (fun i => decide (cueF (mem 80) (i + x1) = cueF (mem 80) i)) 1 (mem 65 27 - 1 - x1).toNat → mmT bX12_spare 2 0 0 (mQ 0 (fun v m => v = (if upFrom (fun i => decide (cueF (mem 80) (i + x1) = cueF (mem 80) i)) 1 (mem 65 27 - 1 - x1).toNat = -1 then 1 else if x2 = 0 then upFrom (fun i => decide (cueF (mem 80) (i + x1) = cueF (mem 80) i)) 1 (mem 65 27 - 1 - x1).toNat else 0) ∧ m = mem)) 40 [(2, 65), (0, x1), (0, x2), (0, i)] [] mS mem := by
      intro k
      induction k with
      | zero =>
        intro i h0 hk hi he
        refine bk_X12_spare_40 (fun g1 g2 => by omega) (fun g1 => ⟨?_, rfl⟩) (fun g1 g2 g3 => by omega) (fun g1 g2 g3 => by omega)
        rw [← he]
        rfl
      | succ k ih =>
        intro i h0 hk hi he
        rw [upFrom_succ] at he
        have c1 : cueF (mem 80) i = mem 80 (i - 1) := by unfold cueF; rw [if_neg (by omega)]
        have c2 : cueF (mem 80) (i + x1) = mem 80 (i + x1 - 1) := by unfold cueF; rw [if_neg (by omega)]
        refine bk_X12_spare_40 (fun g1 g2 => ?_) (fun g1 => by omega) (fun g1 g2 g3 => ⟨?_, rfl⟩) (fun g1 g2 g3 => ⟨?_, rfl⟩)
        · refine ih (i + 1) (by omega) (by omega) (by omega) ?_
          rw [if_neg (fun q => g2 (by have := of_decide_eq_true q; rw [c1, c2] at this; exact this.symm))] at he
          exact he
        · rw [if_pos (decide_eq_true (by rw [c1, c2]; exact g2.symm))] at he
          rw [← he, if_neg (by omega), if_neg g3]
        · rw [if_pos (decide_eq_true (by rw [c1, c2]; exact g2.symm))] at he
          rw [← he, if_neg (by omega), if_pos g3]
    exact key _ 1 (by omega) rfl (by omega) (by rw [show mem 65 27 - 1 - x1 + 1 - 1 = mem 65 27 - 1 - x1 by omega])
  · rw [if_pos (by omega)]
  · rw [if_pos (by omega)]
  · rw [if_pos (by omega)]
  · rw [if_pos (by omega)]
theorem c_X12_reword (mem : mmM) (x1 : Int) (h1 : R32 x1) (hp : playM mem) : con 0 bX12_reword 3 [(2, 65), (0, x1)] mem (fun v m => v = (if mem 65 27 = 0 ∨ ¬ (0 ≤ x1 ∧ x1 ≤ 1) then -1000000 else if x1 = 0 then wtcF (mem 65 27) (mem 79) (cueF (mem 80)) else fwtF (mem 65 27) (mem 79) (cueF (mem 80))) ∧ m = mem) := by
  have hn := hp.1
  refine cn_X12_reword (bk_X12_reword_0 (fun g g2 => ?_) (fun g => ⟨?_, rfl⟩) (fun g g2 => ⟨?_, rfl⟩))
  rotate_left
  · rw [if_pos (Or.inl g)]
  · rw [if_pos (Or.inr g2)]
  rw [if_neg (by omega)]
  have out : ∀ i : Int, 0 ≤ i → i ≤ mem 65 27 → 1 ≤ i → ∀ acc x : Int, acc = sumTo (fun i => b2i (¬ aheadF (mem 65 27) (mem 79) (cueF (mem 80)) i = -1)) i.toNat → (acc ≤ i) → (0 ≤ acc) →
      ((x = -1 ∧ upFrom (fun i => decide (¬ aheadF (mem 65 27) (mem 79) (cueF (mem 80)) i = -1)) i (mem 65 27 - i).toNat = upFrom (fun i => decide (¬ aheadF (mem 65 27) (mem 79) (cueF (mem 80)) i = -1)) 0 (mem 65 27).toNat) ∨ ((0 ≤ x ∧ x ≤ 24) ∧ upFrom (fun i => decide (¬ aheadF (mem 65 27) (mem 79) (cueF (mem 80)) i = -1)) 0 (mem 65 27).toNat = x + 1)) →
      mmT bX12_reword 3 0 0 (mQ 0 (fun v m => v = (if x1 = 0 then wtcF (mem 65 27) (mem 79) (cueF (mem 80)) else fwtF (mem 65 27) (mem 79) (cueF (mem 80))) ∧ m = mem)) 27 [(2, 65), (0, x1), (0, acc), (0, x), (0, i), (9, 0), (9, 0)] [] mS mem := by
    refine loop_up (n := mem 65 27) (fun i => 1 ≤ i → ∀ acc x : Int, acc = sumTo (fun i => b2i (¬ aheadF (mem 65 27) (mem 79) (cueF (mem 80)) i = -1)) i.toNat → (acc ≤ i) → (0 ≤ acc) →
      ((x = -1 ∧ upFrom (fun i => decide (¬ aheadF (mem 65 27) (mem 79) (cueF (mem 80)) i = -1)) i (mem 65 27 - i).toNat = upFrom (fun i => decide (¬ aheadF (mem 65 27) (mem 79) (cueF (mem 80)) i = -1)) 0 (mem 65 27).toNat) ∨ ((0 ≤ x ∧ x ≤ 24) ∧ upFrom (fun i => decide (¬ aheadF (mem 65 27) (mem 79) (cueF (mem 80)) i = -1)) 0 (mem 65 27).toNat = x + 1)) →
      mmT bX12_reword 3 0 0 (mQ 0 (fun v m => v = (if x1 = 0 then wtcF (mem 65 27) (mem 79) (cueF (mem 80)) else fwtF (mem 65 27) (mem 79) (cueF (mem 80))) ∧ m = mem)) 27 [(2, 65), (0, x1), (0, acc), (0, x), (0, i), (9, 0), (9, 0)] [] mS mem) (fun i h0 hi ih h01 acc x ha hb hc hx => ?_)
    refine bk_X12_reword_27 (fun g => ?_) (fun g g2 => ⟨?_, rfl⟩) (fun g g2 => ⟨?_, rfl⟩)
    · have q1 := aheadF_bnd (mem 65 27) (mem 79) (cueF (mem 80)) h0
      have nx : ∀ t : Int, (t = 0 ∧ aheadF (mem 65 27) (mem 79) (cueF (mem 80)) i = -1 ∨ t = 1 ∧ ¬ aheadF (mem 65 27) (mem 79) (cueF (mem 80)) i = -1) → (acc + t) = sumTo (fun i => b2i (¬ aheadF (mem 65 27) (mem 79) (cueF (mem 80)) i = -1)) (i + 1).toNat ∧ acc + t ≤ i + 1 ∧ 0 ≤ acc + t := by
        intro t ht
        rw [sumTo_step _ h0, ← ha]
        rcases ht with ⟨e, g3⟩ | ⟨e, g3⟩
        · rw [e, b2i_0 (fun z => z g3)]
          exact ⟨rfl, by omega, by omega⟩
        · rw [e, b2i_1 g3]
          exact ⟨rfl, by omega, by omega⟩
      have up : upFrom (fun i => decide (¬ aheadF (mem 65 27) (mem 79) (cueF (mem 80)) i = -1)) i (mem 65 27 - i).toNat = if decide (¬ aheadF (mem 65 27) (mem 79) (cueF (mem 80)) i = -1) = true then i else upFrom (fun i => decide (¬ aheadF (mem 65 27) (mem 79) (cueF (mem 80)) i = -1)) (i + 1) (mem 65 27 - (i + 1)).toNat := by
        rw [show (mem 65 27 - i).toNat = (mem 65 27 - (i + 1)).toNat + 1 by omega]
        exact upFrom_succ _ _ _
      refine loop_up (n := i) (fun k => ∀ b : Int, (b = 0 ∧ (∀ j, 0 ≤ j → j < k → ¬ likeF (mem 65 27) (mem 79) (cueF (mem 80)) j i)) ∨ (b = 1 ∧ ¬ aheadF (mem 65 27) (mem 79) (cueF (mem 80)) i = -1) → mmT bX12_reword 3 0 0 (mQ 0 (fun v m => v = (if x1 = 0 then wtcF (mem 65 27) (mem 79) (cueF (mem 80)) else fwtF (mem 65 27) (mem 79) (cueF (mem 80))) ∧ m = mem)) 42 [(2, 65), (0, x1), (0, acc), (0, x), (0, i), (0, b), (0, k)] [] mS mem) (fun k k0 k1 ihk b hb => ?_) 0 (by omega) h0 0 (Or.inl ⟨rfl, fun j z z2 => by omega⟩)
      have fin0 : i ≤ k → b = 0 → aheadF (mem 65 27) (mem 79) (cueF (mem 80)) i = -1 := by
        intro g1 g2
        rcases hb with hb | hb
        · rcases q1 with q1 | q1
          · exact q1.1
          · exact absurd q1.2.2.1 (hb.2 _ q1.1 (by omega))
        · omega
      have fin1 : ¬ b = 0 → ¬ aheadF (mem 65 27) (mem 79) (cueF (mem 80)) i = -1 := by
        intro g1
        rcases hb with hb | hb
        · exact absurd hb.1 g1
        · exact hb.2
      have lk : likeM (mem 79) (cueF (mem 80)) i k ↔ likeF (mem 65 27) (mem 79) (cueF (mem 80)) k i := by
        by_cases z : k < mem 65 27
        · exact likeM_iff hp ⟨h0, g⟩ ⟨k0, z⟩
        · omega
      have al : k < i → likeF (mem 65 27) (mem 79) (cueF (mem 80)) k i → ¬ aheadF (mem 65 27) (mem 79) (cueF (mem 80)) i = -1 := by
        intro g1 g2 g3
        rcases q1 with q1 | q1
        · exact q1.2 k k0 g1 g2
        · omega
      refine bk_X12_reword_42 (fun g1 g2 g3 => ?_) (fun g1 g2 g3 => absurd g2 g3) (fun g1 g2 g3 g4 => absurd g4 g2) (fun g1 g2 g3 g4 => ?_) (fun g1 g2 g3 g4 => absurd g4 g2) (fun g1 g2 g3 g4 => ?_) (fun g1 g2 => ihk g1 1 (Or.inr ⟨rfl, fin1 g2⟩)) (fun g1 g2 g3 => ihk g1 0 (Or.inl ⟨rfl, fun j z z2 => ?_⟩)) (fun g1 g2 g3 => ihk g1 1 (Or.inr ⟨rfl, al g1 (lk.mp g3)⟩))
      · have w := nx 0 (Or.inl ⟨rfl, fin0 g1 g2⟩)
        refine ih g (by omega) _ _ w.1 w.2.1 w.2.2 ?_
        rcases hx with hx | hx
        · refine Or.inl ⟨hx.1, ?_⟩
          rw [← hx.2, up, if_neg (fun z => absurd (fin0 g1 g2) (of_decide_eq_true z))]
        · exact Or.inr hx
      · have w := nx 1 (Or.inr ⟨rfl, fin1 g2⟩)
        refine ih g (by omega) _ _ w.1 w.2.1 w.2.2 ?_
        rcases hx with hx | hx
        · exact absurd hx.1 g3
        · exact Or.inr hx
      · have w := nx 1 (Or.inr ⟨rfl, fin1 g2⟩)
        refine ih g (by omega) _ _ w.1 w.2.1 w.2.2 ?_
        rcases hx with hx | hx
        · refine Or.inr ⟨⟨by omega, by omega⟩, ?_⟩
          rw [← hx.2, up, if_pos (decide_eq_true (fin1 g2))]
          omega
        · omega
      · by_cases e : j = k
        · rw [e]
          exact fun z3 => g3 (lk.mpr z3)
        · rcases hb with hb | hb
          · exact hb.2 j z (by omega)
          · omega
    · rw [if_neg g2]
      unfold fwtF
      rcases hx with hx | hx
      · rw [← hx.2, show (mem 65 27 - i).toNat = 0 by omega]
        exact hx.1
      · rw [hx.2, if_neg (by omega)]
        omega
    · rw [if_pos g2, ha, show i = mem 65 27 by omega]
      rfl
  have a0 : aheadF (mem 65 27) (mem 79) (cueF (mem 80)) 0 = -1 := rfl
  refine out 1 (by omega) (by omega) (by omega) 0 (-1) ?_ (by omega) (by omega) (Or.inl ⟨rfl, ?_⟩)
  · show (0 : Int) = 0 + b2i (¬ aheadF (mem 65 27) (mem 79) (cueF (mem 80)) 0 = -1)
    rw [b2i_0 (fun z => z a0)]
    rfl
  · rw [show (mem 65 27).toNat = (mem 65 27 - 1).toNat + 1 by omega, upFrom_succ, if_neg (fun z => absurd a0 (of_decide_eq_true z))]
    rfl
