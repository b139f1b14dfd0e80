/-! rows of losses, forward: the sum over all places of how many stand there times how many come to the end from there stays the same -/
theorem sumTo_flat {f : Int → Int} {a : Nat} : ∀ (t : Nat), (∀ i : Int, (a : Int) ≤ i → i < ((a + t : Nat) : Int) → f i = 0) → sumTo f (a + t) = sumTo f a := by
  intro t
  induction t with
  | zero => intro _; rfl
  | succ t ih =>
    intro h
    show sumTo f (a + t) + f ((a + t : Nat) : Int) = sumTo f a
    rw [ih (fun i i0 i1 => h i i0 (by omega)), h _ (by omega) (by omega)]
    omega
theorem sumTo_mul_upd (T w : Int → Int) (k x : Int) (n : Nat) (h : 0 ≤ k ∧ k < n) : sumTo (fun q => updF T k x q * w q) n = sumTo (fun q => T q * w q) n - T k * w k + x * w k := by
  rw [← sumTo_upd (fun q => T q * w q) k (x * w k) n h]
  refine sumTo_congr (fun i _ _ => ?_)
  unfold updF
  by_cases e : i = k
  · rw [if_pos e, if_pos e, e]
  · rw [if_neg e, if_neg e]
def rwW (n : Int) (to : Int → Int) (k top : Int) (q : Int) : Int := if q / 7 < top ∧ q % 7 ≤ k then rwR n to (k - q % 7).toNat (q / 7) else 0
theorem rwW_nn {n : Int} {to : Int → Int} (hn : n ≤ 24) (k top : Int) {q : Int} (h : 0 ≤ q) : 0 ≤ rwW n to k top q := by
  unfold rwW
  split
  · exact (rwR_bnd hn _ (by omega)).1
  · exact Int.le_refl _
theorem rwW_at {n : Int} {to : Int → Int} {k top s j : Int} (hs : s < top) (hj : 0 ≤ j ∧ j ≤ k) (hk : k ≤ 6) : rwW n to k top (7 * s + j) = rwR n to (k - j).toNat s := by
  unfold rwW
  have e1 : (7 * s + j) / 7 = s := by omega
  have e2 : (7 * s + j) % 7 = j := by omega
  rw [e1, e2, if_pos ⟨hs, hj.2⟩]
/-- one more is added, and no bound is met where it counts -/
theorem rw_add {T w : Int → Int} {idx v Z rest : Int} (hT : ∀ q, 0 ≤ q → q < 175 → 0 ≤ T q) (hw : ∀ q, 0 ≤ q → 0 ≤ w q) (hi : 0 ≤ idx ∧ idx < 175) (hv : 0 ≤ v) (hZ : sumTo (fun q => T q * w q) 175 + rest = Z) (hr : v * w idx ≤ rest) (hb : Z ≤ 191102976) : sumTo (fun q => updF T idx (min 1000000000 (T idx + v)) q * w q) 175 = sumTo (fun q => T q * w q) 175 + v * w idx := by
  rw [sumTo_mul_upd T w idx _ 175 hi]
  have hwi := hw idx hi.1
  by_cases e : w idx = 0
  · rw [e, Int.mul_zero, Int.mul_zero, Int.mul_zero]
    omega
  · have h1 : T idx * w idx ≤ sumTo (fun q => T q * w q) 175 := sumTo_ge (f := fun q => T q * w q) (fun i i0 i1 => Int.mul_nonneg (hT i i0 i1) (hw i i0)) hi.1 hi.2
    have hs : (T idx + v) * w idx = T idx * w idx + v * w idx := Int.add_mul _ _ _
    have h2 : T idx + v ≤ (T idx + v) * w idx := by
      have := Int.mul_le_mul_of_nonneg_left (show (1 : Int) ≤ w idx by omega) (show 0 ≤ T idx + v by have := hT idx hi.1 hi.2; omega)
      rw [Int.mul_one] at this
      exact this
    rw [show min 1000000000 (T idx + v) = T idx + v by omega, hs]
    omega
theorem cn_X12_added {d : Nat} {P : Int → mmM → Prop} {mem : mmM} {x0 x1 : Int} (h : mmT bX12_added d 0 0 (mQ 0 P) 0 [(0, x0), (0, x1)] [] mS mem) : con 0 bX12_added d [(0, x0), (0, x1)] mem P := mmC_of [(0, x0), (0, x1)] ok_X12_added.2.2.2.2 rfl (Nat.le_of_ble_eq_true rfl) h
theorem bk_X12_added_0 {d : Nat} {P : Int → mmM → Prop} {mem : mmM} {x0 x1 : Int}
  (q1 : P (min 1000000000 (x0 + x1)) mem)
  (hd1 : 1 ≤ d := by omega)
  (s1 : R32 x0 := by intros; first | omega | assumption | solve_by_elim)
  (s2 : R32 x1 := by intros; first | omega | assumption | solve_by_elim)
  (s3 : R64 (x0 + x1) := by intros; first | omega | assumption | solve_by_elim)
  : mmT bX12_added d 0 0 (mQ 0 P) 0 [(0, x0), (0, x1)] [] mS mem := by
  refine st_ldc2 cw_X12_400 dX12_added_0 ?_
  refine st_iload_n (i := 0) rfl rfl dX12_added_3 ?_
  refine sr_i2l s1 dX12_added_4 ?_
  refine st_iload_n (i := 1) rfl rfl dX12_added_5 ?_
  refine sr_i2l s2 dX12_added_6 ?_
  refine st_ladd dX12_added_7 ?_
  refine sr_mminl ⟨by decide, by decide⟩ s3 mr_X12_208 ms_minj mi_Math mc_minj hd1 (Nat.le_of_ble_eq_true rfl) dX12_added_8 ?_
  refine st_l2i dX12_added_11 ?_
  exact st_ireturn rfl dX12_added_12 (mQ.ret q1)
theorem cn_X12_rows {d : Nat} {P : Int → mmM → Prop} {mem : mmM} {x1 : Int} (h : mmT bX12_rows d 0 0 (mQ 0 P) 0 [(2, 65), (0, x1), (9, 0), (9, 0), (9, 0), (9, 0), (9, 0), (9, 0)] [] mS mem) : con 0 bX12_rows d [(2, 65), (0, x1)] mem P := mmC_of [(2, 65), (0, x1), (9, 0), (9, 0), (9, 0), (9, 0), (9, 0), (9, 0)] ok_X12_rows.2.2.2.2 rfl (Nat.le_of_ble_eq_true rfl) h
theorem bk_X12_rows_0 {d : Nat} {P : Int → mmM → Prop} {mem : mmM} {x1 : Int}
  (k1 : ¬ (mem 65 27) = 0 → (0 ≤ x1 ∧ x1 ≤ 6) → mmT bX12_rows d 0 0 (mQ 0 P) 21 [(2, 65), (0, x1), (0, 0), (9, 0), (9, 0), (9, 0), (9, 0), (9, 0)] [] mS mem)
  (q1 : (mem 65 27) = 0 → P (-1) mem)
  (q2 : ¬ (mem 65 27) = 0 → ¬ (0 ≤ x1 ∧ x1 ≤ 6) → P (-1) mem)
  (hd2 : 2 ≤ d := by omega)
  (s1 : ¬ (mem 65 27) = 0 → R32 x1 := by intros; first | omega | assumption | solve_by_elim)
  : mmT bX12_rows d 0 0 (mQ 0 P) 0 [(2, 65), (0, x1), (9, 0), (9, 0), (9, 0), (9, 0), (9, 0), (9, 0)] [] mS mem := by
  refine st_aload_n (i := 0) rfl (t := 0) rfl (by decide) dX12_rows_0 ?_
  refine so_getI (v := (mem 65 27)) 65 27 fr_X12_268_11 rfl sh_65 rfl dX12_rows_1 (fun r1 => ?_)
  refine sr_if_eq 17 r1 (by decide) dX12_rows_4 (fun h1 => ?_) (fun h1 => ?_)
  · have h1 : (mem 65 27) = 0 := by omega
    refine st_iconst dX12_rows_17 ?_
    exact st_ireturn rfl dX12_rows_18 (mQ.ret (q1 h1))
  · have h1 : ¬ (mem 65 27) = 0 := by omega
    refine st_iload_n (i := 1) rfl rfl dX12_rows_7 ?_
    refine st_iconst dX12_rows_8 ?_
    refine st_bipush rfl dX12_rows_9 ?_
    refine st_callS (kc2 := 0) (ks2 := 0) (av := [(0, x1), (0, 0), (0, 6)]) mr_X12_229 ok_X12_in (c_X12_in mem x1 0 6 ((s1 h1)) (⟨by decide, by decide⟩) (⟨by decide, by decide⟩)) rfl rfl hd2 (Nat.le_refl 0) (Nat.le_refl 0) (Nat.le_of_ble_eq_true rfl) dX12_rows_11 (mQ.elim fun v1 m1 hp => ?_)
    obtain ⟨hpv, hpm⟩ := hp
    subst hpv
    have hpm := hpm.symm
    subst hpm
    refine so_ifneB 19 (by decide) dX12_rows_14 (fun h2 => ?_) (fun h2 => ?_)
    · have h2 : (0 ≤ x1 ∧ x1 ≤ 6) := h2
      refine st_iconst dX12_rows_19 ?_
      refine st_istore_n (i := 2) rfl (by decide) (lc' := [(2, 65), (0, x1), (0, 0), (9, 0), (9, 0), (9, 0), (9, 0), (9, 0)]) rfl dX12_rows_20 ?_
      exact st_locals [(2, 65), (0, x1), (0, 0), (9, 0), (9, 0), (9, 0), (9, 0), (9, 0)] ⟨Or.inr rfl, Or.inr rfl, Or.inr rfl, Or.inl rfl, Or.inl rfl, Or.inl rfl, Or.inl rfl, Or.inl rfl, trivial⟩ (k1 h1 h2)
    · have h2 : ¬ (0 ≤ x1 ∧ x1 ≤ 6) := h2
      refine st_iconst dX12_rows_17 ?_
      exact st_ireturn rfl dX12_rows_18 (mQ.ret (q2 h1 h2))
theorem bk_X12_rows_21 {d : Nat} {P : Int → mmM → Prop} {mem : mmM} {x1 x2 : Int}
  (k1 : 175 ≤ x2 → mmT bX12_rows d 0 0 (mQ 0 P) 55 [(2, 65), (0, x1), (0, 0), (0, 0), (9, 0), (9, 0), (9, 0), (9, 0)] [] mS mem)
  (k2 : x2 < 175 → ¬ x2 = 0 → mmT bX12_rows d 0 0 (mQ 0 P) 21 [(2, 65), (0, x1), (0, (x2 + 1)), (9, 0), (9, 0), (9, 0), (9, 0), (9, 0)] [] mS (mset mem 89 x2 0))
  (k3 : x2 < 175 → x2 = 0 → mmT bX12_rows d 0 0 (mQ 0 P) 21 [(2, 65), (0, x1), (0, (x2 + 1)), (9, 0), (9, 0), (9, 0), (9, 0), (9, 0)] [] mS (mset mem 89 x2 1))
  (s1 : R32 x2 := by intros; first | omega | assumption | solve_by_elim)
  (s2 : x2 < 175 → ¬ x2 = 0 → 0 ≤ x2 ∧ x2 < 175 := by intros; first | omega | assumption | solve_by_elim)
  (s3 : x2 < 175 → x2 = 0 → 0 ≤ x2 ∧ x2 < 175 := by intros; first | omega | assumption | solve_by_elim)
  : mmT bX12_rows d 0 0 (mQ 0 P) 21 [(2, 65), (0, x1), (0, x2), (9, 0), (9, 0), (9, 0), (9, 0), (9, 0)] [] mS mem := by
  refine st_iload_n (i := 2) rfl rfl dX12_rows_21 ?_
  refine st_aload_n (i := 0) rfl (t := 0) rfl (by decide) dX12_rows_22 ?_
  refine so_getA 65 47 fr_X12_83_11 rfl sh_65 fx_65_47 dX12_rows_23 ?_
  refine so_alen (v := 175) 89 rfl sh_89 (by decide) rfl dX12_rows_26 ?_
  refine sr_icmp_ge 51 s1 ⟨by decide, by decide⟩ (by decide) dX12_rows_27 (fun h1 => ?_) (fun h1 => ?_)
  · have h1 : 175 ≤ x2 := by omega
    refine st_iconst dX12_rows_51 ?_
    refine st_istore_n (i := 2) rfl (by decide) (lc' := [(2, 65), (0, x1), (0, 0), (9, 0), (9, 0), (9, 0), (9, 0), (9, 0)]) rfl dX12_rows_52 ?_
    refine st_iconst dX12_rows_53 ?_
    refine st_istore_n (i := 3) rfl (by decide) (lc' := [(2, 65), (0, x1), (0, 0), (0, 0), (9, 0), (9, 0), (9, 0), (9, 0)]) rfl dX12_rows_54 ?_
    exact st_locals [(2, 65), (0, x1), (0, 0), (0, 0), (9, 0), (9, 0), (9, 0), (9, 0)] ⟨Or.inr rfl, Or.inr rfl, Or.inr rfl, Or.inr rfl, Or.inl rfl, Or.inl rfl, Or.inl rfl, Or.inl rfl, trivial⟩ (k1 h1)
  · have h1 : x2 < 175 := by omega
    refine st_aload_n (i := 0) rfl (t := 0) rfl (by decide) dX12_rows_30 ?_
    refine so_getA 65 47 fr_X12_83_11 rfl sh_65 fx_65_47 dX12_rows_31 ?_
    refine st_iload_n (i := 2) rfl rfl dX12_rows_34 ?_
    refine st_iload_n (i := 2) rfl rfl dX12_rows_35 ?_
    refine sr_if_ne 43 s1 (by decide) dX12_rows_36 (fun h2 => ?_) (fun h2 => ?_)
    · have h2 : ¬ x2 = 0 := by omega
      refine st_iconst dX12_rows_43 ?_
      refine so_iast 89 fr_89 rfl sh_89 (by decide) (s2 h1 h2) ⟨by decide, by decide⟩ dX12_rows_44 ?_
      refine st_iinc (y := (x2 + 1)) (by decide) (i := 2) rfl rfl (lc' := [(2, 65), (0, x1), (0, (x2 + 1)), (9, 0), (9, 0), (9, 0), (9, 0), (9, 0)]) rfl dX12_rows_45 ?_
      refine st_goto 21 (by decide) dX12_rows_48 ?_
      exact st_locals [(2, 65), (0, x1), (0, (x2 + 1)), (9, 0), (9, 0), (9, 0), (9, 0), (9, 0)] ⟨Or.inr rfl, Or.inr rfl, Or.inr rfl, Or.inl rfl, Or.inl rfl, Or.inl rfl, Or.inl rfl, Or.inl rfl, trivial⟩ (k2 h1 h2)
    · have h2 : x2 = 0 := by omega
      refine st_iconst dX12_rows_39 ?_
      refine st_goto 44 (by decide) dX12_rows_40 ?_
      refine so_iast 89 fr_89 rfl sh_89 (by decide) (s3 h1 h2) ⟨by decide, by decide⟩ dX12_rows_44 ?_
      refine st_iinc (y := (x2 + 1)) (by decide) (i := 2) rfl rfl (lc' := [(2, 65), (0, x1), (0, (x2 + 1)), (9, 0), (9, 0), (9, 0), (9, 0), (9, 0)]) rfl dX12_rows_45 ?_
      refine st_goto 21 (by decide) dX12_rows_48 ?_
      exact st_locals [(2, 65), (0, x1), (0, (x2 + 1)), (9, 0), (9, 0), (9, 0), (9, 0), (9, 0)] ⟨Or.inr rfl, Or.inr rfl, Or.inr rfl, Or.inl rfl, Or.inl rfl, Or.inl rfl, Or.inl rfl, Or.inl rfl, trivial⟩ (k3 h1 h2)
theorem bk_X12_rows_55 {d : Nat} {P : Int → mmM → Prop} {mem : mmM} {x1 x2 x3 : Int}
  (k1 : x3 < 200 → mmT bX12_rows d 0 0 (mQ 0 P) 65 [(2, 65), (0, x1), (0, x2), (0, x3), (0, 0), (9, 0), (9, 0), (9, 0)] [] mS mem)
  (q1 : 200 ≤ x3 → P x2 mem)
  (s1 : R32 x3 := by intros; first | omega | assumption | solve_by_elim)
  : mmT bX12_rows d 0 0 (mQ 0 P) 55 [(2, 65), (0, x1), (0, x2), (0, x3), (9, 0), (9, 0), (9, 0), (9, 0)] [] mS mem := by
  refine st_iload_n (i := 3) rfl rfl dX12_rows_55 ?_
  refine st_sipush rfl dX12_rows_56 ?_
  refine sr_icmp_ge 289 s1 ⟨by decide, by decide⟩ (by decide) dX12_rows_59 (fun h1 => ?_) (fun h1 => ?_)
  · have h1 : 200 ≤ x3 := by omega
    refine st_iload_n (i := 2) rfl rfl dX12_rows_289 ?_
    exact st_ireturn rfl dX12_rows_290 (mQ.ret (q1 h1))
  · have h1 : x3 < 200 := by omega
    refine st_iconst dX12_rows_62 ?_
    refine st_istore (by decide) (lc' := [(2, 65), (0, x1), (0, x2), (0, x3), (0, 0), (9, 0), (9, 0), (9, 0)]) rfl dX12_rows_63 ?_
    exact st_locals [(2, 65), (0, x1), (0, x2), (0, x3), (0, 0), (9, 0), (9, 0), (9, 0)] ⟨Or.inr rfl, Or.inr rfl, Or.inr rfl, Or.inr rfl, Or.inr rfl, Or.inl rfl, Or.inl rfl, Or.inl rfl, trivial⟩ (k1 h1)
theorem bk_X12_rows_65 {d : Nat} {P : Int → mmM → Prop} {mem : mmM} {x1 x2 x3 x4 : Int}
  (k1 : 175 ≤ x4 → mmT bX12_rows d 0 0 (mQ 0 P) 92 [(2, 65), (0, x1), (0, x2), (0, x3), (0, 0), (9, 0), (9, 0), (9, 0)] [] mS mem)
  (k2 : x4 < 175 → mmT bX12_rows d 0 0 (mQ 0 P) 65 [(2, 65), (0, x1), (0, x2), (0, x3), (0, (x4 + 1)), (9, 0), (9, 0), (9, 0)] [] mS (mset mem 90 x4 0))
  (s1 : R32 x4 := by intros; first | omega | assumption | solve_by_elim)
  (s2 : x4 < 175 → 0 ≤ x4 ∧ x4 < 175 := by intros; first | omega | assumption | solve_by_elim)
  : mmT bX12_rows d 0 0 (mQ 0 P) 65 [(2, 65), (0, x1), (0, x2), (0, x3), (0, x4), (9, 0), (9, 0), (9, 0)] [] mS mem := by
  refine st_iload rfl dX12_rows_65 ?_
  refine st_aload_n (i := 0) rfl (t := 0) rfl (by decide) dX12_rows_67 ?_
  refine so_getA 65 48 fr_X12_86_11 rfl sh_65 fx_65_48 dX12_rows_68 ?_
  refine so_alen (v := 175) 90 rfl sh_90 (by decide) rfl dX12_rows_71 ?_
  refine sr_icmp_ge 89 s1 ⟨by decide, by decide⟩ (by decide) dX12_rows_72 (fun h1 => ?_) (fun h1 => ?_)
  · have h1 : 175 ≤ x4 := by omega
    refine st_iconst dX12_rows_89 ?_
    refine st_istore (by decide) (lc' := [(2, 65), (0, x1), (0, x2), (0, x3), (0, 0), (9, 0), (9, 0), (9, 0)]) rfl dX12_rows_90 ?_
    exact st_locals [(2, 65), (0, x1), (0, x2), (0, x3), (0, 0), (9, 0), (9, 0), (9, 0)] ⟨Or.inr rfl, Or.inr rfl, Or.inr rfl, Or.inr rfl, Or.inr rfl, Or.inl rfl, Or.inl rfl, Or.inl rfl, trivial⟩ (k1 h1)
  · have h1 : x4 < 175 := by omega
    refine st_aload_n (i := 0) rfl (t := 0) rfl (by decide) dX12_rows_75 ?_
    refine so_getA 65 48 fr_X12_86_11 rfl sh_65 fx_65_48 dX12_rows_76 ?_
    refine st_iload rfl dX12_rows_79 ?_
    refine st_iconst dX12_rows_81 ?_
    refine so_iast 90 fr_90 rfl sh_90 (by decide) (s2 h1) ⟨by decide, by decide⟩ dX12_rows_82 ?_
    refine st_iinc (y := (x4 + 1)) (by decide) (i := 4) rfl rfl (lc' := [(2, 65), (0, x1), (0, x2), (0, x3), (0, (x4 + 1)), (9, 0), (9, 0), (9, 0)]) rfl dX12_rows_83 ?_
    refine st_goto 65 (by decide) dX12_rows_86 ?_
    exact st_locals [(2, 65), (0, x1), (0, x2), (0, x3), (0, (x4 + 1)), (9, 0), (9, 0), (9, 0)] ⟨Or.inr rfl, Or.inr rfl, Or.inr rfl, Or.inr rfl, Or.inr rfl, Or.inl rfl, Or.inl rfl, Or.inl rfl, trivial⟩ (k2 h1)
theorem bk_X12_rows_92 {d : Nat} {P : Int → mmM → Prop} {mem : mmM} {x1 x2 x3 x4 : Int}
  (k1 : (mem 65 27) ≤ x4 → mmT bX12_rows d 0 0 (mQ 0 P) 234 [(2, 65), (0, x1), (0, x2), (0, x3), (0, 0), (9, 0), (9, 0), (9, 0)] [] mS mem)
  (k2 : x4 < (mem 65 27) → mmT bX12_rows d 0 0 (mQ 0 P) 112 [(2, 65), (0, x1), (0, x2), (0, x3), (0, x4), (0, (leapM mem x4)), (0, 0), (9, 0)] [] mS mem)
  (hd4 : 4 ≤ d := by omega)
  (s1 : R32 x4 := by intros; first | omega | assumption | solve_by_elim)
  (s2 : x4 < (mem 65 27) → playM mem := by intros; first | omega | assumption | solve_by_elim)
  (s3 : x4 < (mem 65 27) → 0 ≤ x4 ∧ x4 < (mem 65 27) := by intros; first | omega | assumption | solve_by_elim)
  : mmT bX12_rows d 0 0 (mQ 0 P) 92 [(2, 65), (0, x1), (0, x2), (0, x3), (0, x4), (9, 0), (9, 0), (9, 0)] [] mS mem := by
  refine st_iload rfl dX12_rows_92 ?_
  refine st_aload_n (i := 0) rfl (t := 0) rfl (by decide) dX12_rows_94 ?_
  refine so_getI (v := (mem 65 27)) 65 27 fr_X12_268_11 rfl sh_65 rfl dX12_rows_95 (fun r1 => ?_)
  refine sr_icmp_ge 231 s1 r1 (by decide) dX12_rows_98 (fun h1 => ?_) (fun h1 => ?_)
  · have h1 : (mem 65 27) ≤ x4 := by omega
    refine st_iconst dX12_rows_231 ?_
    refine st_istore (by decide) (lc' := [(2, 65), (0, x1), (0, x2), (0, x3), (0, 0), (9, 0), (9, 0), (9, 0)]) rfl dX12_rows_232 ?_
    exact st_locals [(2, 65), (0, x1), (0, x2), (0, x3), (0, 0), (9, 0), (9, 0), (9, 0)] ⟨Or.inr rfl, Or.inr rfl, Or.inr rfl, Or.inr rfl, Or.inr rfl, Or.inl rfl, Or.inl rfl, Or.inl rfl, trivial⟩ (k1 h1)
  · have h1 : x4 < (mem 65 27) := by omega
    refine st_aload_n (i := 0) rfl (t := 0) rfl (by decide) dX12_rows_101 ?_
    refine st_iload rfl dX12_rows_102 ?_
    refine st_callV (kc2 := 0) (ks2 := 0) (av := [(0, x4)]) 65 11 mr_X12_326 ok_X12_leapOf (c_X12_leapOf mem x4 ((s2 h1)) ((s3 h1))) rfl sh_65 ⟨_, rfl, rfl, by decide⟩ rfl rfl hd4 (Nat.le_refl 0) (Nat.le_refl 0) (Nat.le_of_ble_eq_true rfl) dX12_rows_104 (mQ.elim fun v1 m1 hp => ?_)
    obtain ⟨hpv, hpm⟩ := hp
    subst hpv
    have hpm := hpm.symm
    subst hpm
    refine st_istore (by decide) (lc' := [(2, 65), (0, x1), (0, x2), (0, x3), (0, x4), (0, (leapM mem x4)), (9, 0), (9, 0)]) rfl dX12_rows_107 ?_
    refine st_iconst dX12_rows_109 ?_
    refine st_istore (by decide) (lc' := [(2, 65), (0, x1), (0, x2), (0, x3), (0, x4), (0, (leapM mem x4)), (0, 0), (9, 0)]) rfl dX12_rows_110 ?_
    exact st_locals [(2, 65), (0, x1), (0, x2), (0, x3), (0, x4), (0, (leapM mem x4)), (0, 0), (9, 0)] ⟨Or.inr rfl, Or.inr rfl, Or.inr rfl, Or.inr rfl, Or.inr rfl, Or.inr rfl, Or.inr rfl, Or.inl rfl, trivial⟩ (k2 h1)
theorem bk_X12_rows_112 {d : Nat} {d1 : Nat} {P1 : Int → mmM → Prop} {d2 : Nat} {P2 : Int → mmM → Prop} {P : Int → mmM → Prop} {mem : mmM} {x1 x2 x3 x4 x5 x6 : Int}
  (c1 : x6 ≤ x1 → con 0 bX12_added d1 [(0, (mem 90 ((7 * (x4 + 1)) + x6))), (0, (mem 89 ((7 * x4) + x6)))] mem P1)
  (c2 : x6 ≤ x1 → ∀ (v1 : Int), ∀ (m1 : mmM), P1 v1 m1 → ¬ x5 = (-1) → x6 < x1 → con 0 bX12_added d2 [(0, ((mset m1 90 ((7 * (x4 + 1)) + x6) v1) 90 (((7 * (x5 + 1)) + x6) + 1))), (0, (mem 89 ((7 * x4) + x6)))] (mset m1 90 ((7 * (x4 + 1)) + x6) v1) P2)
  (k1 : x1 < x6 → mmT bX12_rows d 0 0 (mQ 0 P) 92 [(2, 65), (0, x1), (0, x2), (0, x3), (0, (x4 + 1)), (9, 0), (9, 0), (9, 0)] [] mS mem)
  (k2 : x6 ≤ x1 → ∀ (v1 : Int), ∀ (m1 : mmM), P1 v1 m1 → x5 = (-1) → mmT bX12_rows d 0 0 (mQ 0 P) 112 [(2, 65), (0, x1), (0, x2), (0, x3), (0, x4), (0, x5), (0, (x6 + 1)), (9, 0)] [] mS (mset m1 90 ((7 * (x4 + 1)) + x6) v1))
  (k3 : x6 ≤ x1 → ∀ (v1 : Int), ∀ (m1 : mmM), P1 v1 m1 → ¬ x5 = (-1) → x1 ≤ x6 → mmT bX12_rows d 0 0 (mQ 0 P) 112 [(2, 65), (0, x1), (0, x2), (0, x3), (0, x4), (0, x5), (0, (x6 + 1)), (9, 0)] [] mS (mset m1 90 ((7 * (x4 + 1)) + x6) v1))
  (k4 : x6 ≤ x1 → ∀ (v1 : Int), ∀ (m1 : mmM), P1 v1 m1 → ¬ x5 = (-1) → x6 < x1 → ∀ (v2 : Int), ∀ (m2 : mmM), P2 v2 m2 → mmT bX12_rows d 0 0 (mQ 0 P) 112 [(2, 65), (0, x1), (0, x2), (0, x3), (0, x4), (0, x5), (0, (x6 + 1)), (9, 0)] [] mS (mset m2 90 (((7 * (x5 + 1)) + x6) + 1) v2))
  (hd_d1 : d1 + 1 ≤ d := by omega)
  (hd_d2 : d2 + 1 ≤ d := by omega)
  (s1 : R32 x6 := by intros; first | omega | assumption | solve_by_elim)
  (s2 : R32 x1 := by intros; first | omega | assumption | solve_by_elim)
  (s3 : x6 ≤ x1 → 0 ≤ ((7 * x4) + x6) ∧ ((7 * x4) + x6) < 175 := by intros; first | omega | assumption | solve_by_elim)
  (s4 : x6 ≤ x1 → 0 ≤ ((7 * (x4 + 1)) + x6) ∧ ((7 * (x4 + 1)) + x6) < 175 := by intros; first | omega | assumption | solve_by_elim)
  (s5 : x6 ≤ x1 → ∀ (v1 : Int), ∀ (m1 : mmM), P1 v1 m1 → R32 v1 := by intros; first | omega | assumption | solve_by_elim)
  (s6 : x6 ≤ x1 → ∀ (v1 : Int), ∀ (m1 : mmM), P1 v1 m1 → R32 x5 := by intros; first | omega | assumption | solve_by_elim)
  (s7 : x6 ≤ x1 → ∀ (v1 : Int), ∀ (m1 : mmM), P1 v1 m1 → ¬ x5 = (-1) → x6 < x1 → 0 ≤ (((7 * (x5 + 1)) + x6) + 1) ∧ (((7 * (x5 + 1)) + x6) + 1) < 175 := by intros; first | omega | assumption | solve_by_elim)
  (s8 : x6 ≤ x1 → ∀ (v1 : Int), ∀ (m1 : mmM), P1 v1 m1 → ¬ x5 = (-1) → x6 < x1 → ∀ (v2 : Int), ∀ (m2 : mmM), P2 v2 m2 → R32 v2 := by intros; first | omega | assumption | solve_by_elim)
  : mmT bX12_rows d 0 0 (mQ 0 P) 112 [(2, 65), (0, x1), (0, x2), (0, x3), (0, x4), (0, x5), (0, x6), (9, 0)] [] mS mem := by
  refine st_iload rfl dX12_rows_112 ?_
  refine st_iload_n (i := 1) rfl rfl dX12_rows_114 ?_
  refine sr_icmp_gt 225 s1 s2 (by decide) dX12_rows_115 (fun h1 => ?_) (fun h1 => ?_)
  · have h1 : x1 < x6 := by omega
    refine st_iinc (y := (x4 + 1)) (by decide) (i := 4) rfl rfl (lc' := [(2, 65), (0, x1), (0, x2), (0, x3), (0, (x4 + 1)), (0, x5), (0, x6), (9, 0)]) rfl dX12_rows_225 ?_
    refine st_goto 92 (by decide) dX12_rows_228 ?_
    exact st_locals [(2, 65), (0, x1), (0, x2), (0, x3), (0, (x4 + 1)), (9, 0), (9, 0), (9, 0)] ⟨Or.inr rfl, Or.inr rfl, Or.inr rfl, Or.inr rfl, Or.inr rfl, Or.inl rfl, Or.inl rfl, Or.inl rfl, trivial⟩ (k1 h1)
  · have h1 : x6 ≤ x1 := by omega
    refine st_aload_n (i := 0) rfl (t := 0) rfl (by decide) dX12_rows_118 ?_
    refine so_getA 65 47 fr_X12_83_11 rfl sh_65 fx_65_47 dX12_rows_119 ?_
    refine st_bipush rfl dX12_rows_122 ?_
    refine st_iload rfl dX12_rows_124 ?_
    refine st_imul dX12_rows_126 ?_
    refine st_iload rfl dX12_rows_127 ?_
    refine st_iadd dX12_rows_129 ?_
    refine so_iald (v := (mem 89 ((7 * x4) + x6))) 89 rfl sh_89 (by decide) (s3 h1) rfl dX12_rows_130 (fun r1 => ?_)
    refine st_istore (by decide) (lc' := [(2, 65), (0, x1), (0, x2), (0, x3), (0, x4), (0, x5), (0, x6), (0, (mem 89 ((7 * x4) + x6)))]) rfl dX12_rows_131 ?_
    refine st_aload_n (i := 0) rfl (t := 0) rfl (by decide) dX12_rows_133 ?_
    refine so_getA 65 48 fr_X12_86_11 rfl sh_65 fx_65_48 dX12_rows_134 ?_
    refine st_bipush rfl dX12_rows_137 ?_
    refine st_iload rfl dX12_rows_139 ?_
    refine st_iconst dX12_rows_141 ?_
    refine st_iadd dX12_rows_142 ?_
    refine st_imul dX12_rows_143 ?_
    refine st_iload rfl dX12_rows_144 ?_
    refine st_iadd dX12_rows_146 ?_
    refine st_aload_n (i := 0) rfl (t := 0) rfl (by decide) dX12_rows_147 ?_
    refine so_getA 65 48 fr_X12_86_11 rfl sh_65 fx_65_48 dX12_rows_148 ?_
    refine st_bipush rfl dX12_rows_151 ?_
    refine st_iload rfl dX12_rows_153 ?_
    refine st_iconst dX12_rows_155 ?_
    refine st_iadd dX12_rows_156 ?_
    refine st_imul dX12_rows_157 ?_
    refine st_iload rfl dX12_rows_158 ?_
    refine st_iadd dX12_rows_160 ?_
    refine so_iald (v := (mem 90 ((7 * (x4 + 1)) + x6))) 90 rfl sh_90 (by decide) (s4 h1) rfl dX12_rows_161 (fun r2 => ?_)
    refine st_iload rfl dX12_rows_162 ?_
    refine st_callS (kc2 := 0) (ks2 := 0) (av := [(0, (mem 90 ((7 * (x4 + 1)) + x6))), (0, (mem 89 ((7 * x4) + x6)))]) mr_X12_402 ok_X12_added (c1 h1) rfl rfl hd_d1 (Nat.le_refl 0) (Nat.le_refl 0) (Nat.le_of_ble_eq_true rfl) dX12_rows_164 (mQ.elim fun v1 m1 p1 => ?_)
    refine so_iast 90 fr_90 rfl sh_90 (by decide) (s4 h1) (s5 h1 v1 m1 p1) dX12_rows_167 ?_
    refine st_iload rfl dX12_rows_168 ?_
    refine st_iconst dX12_rows_170 ?_
    refine sr_icmp_eq 219 (s6 h1 v1 m1 p1) ⟨by decide, by decide⟩ (by decide) dX12_rows_171 (fun h2 => ?_) (fun h2 => ?_)
    · have h2 : x5 = (-1) := by omega
      refine st_iinc (y := (x6 + 1)) (by decide) (i := 6) rfl rfl (lc' := [(2, 65), (0, x1), (0, x2), (0, x3), (0, x4), (0, x5), (0, (x6 + 1)), (0, (mem 89 ((7 * x4) + x6)))]) rfl dX12_rows_219 ?_
      refine st_goto 112 (by decide) dX12_rows_222 ?_
      exact st_locals [(2, 65), (0, x1), (0, x2), (0, x3), (0, x4), (0, x5), (0, (x6 + 1)), (9, 0)] ⟨Or.inr rfl, Or.inr rfl, Or.inr rfl, Or.inr rfl, Or.inr rfl, Or.inr rfl, Or.inr rfl, Or.inl rfl, trivial⟩ (k2 h1 v1 m1 p1 h2)
    · have h2 : ¬ x5 = (-1) := by omega
      refine st_iload rfl dX12_rows_174 ?_
      refine st_iload_n (i := 1) rfl rfl dX12_rows_176 ?_
      refine sr_icmp_ge 219 s1 s2 (by decide) dX12_rows_177 (fun h3 => ?_) (fun h3 => ?_)
      · have h3 : x1 ≤ x6 := by omega
        refine st_iinc (y := (x6 + 1)) (by decide) (i := 6) rfl rfl (lc' := [(2, 65), (0, x1), (0, x2), (0, x3), (0, x4), (0, x5), (0, (x6 + 1)), (0, (mem 89 ((7 * x4) + x6)))]) rfl dX12_rows_219 ?_
        refine st_goto 112 (by decide) dX12_rows_222 ?_
        exact st_locals [(2, 65), (0, x1), (0, x2), (0, x3), (0, x4), (0, x5), (0, (x6 + 1)), (9, 0)] ⟨Or.inr rfl, Or.inr rfl, Or.inr rfl, Or.inr rfl, Or.inr rfl, Or.inr rfl, Or.inr rfl, Or.inl rfl, trivial⟩ (k3 h1 v1 m1 p1 h2 h3)
      · have h3 : x6 < x1 := by omega
        refine st_aload_n (i := 0) rfl (t := 0) rfl (by decide) dX12_rows_180 ?_
        refine so_getA 65 48 fr_X12_86_11 rfl sh_65 fx_65_48 dX12_rows_181 ?_
        refine st_bipush rfl dX12_rows_184 ?_
        refine st_iload rfl dX12_rows_186 ?_
        refine st_iconst dX12_rows_188 ?_
        refine st_iadd dX12_rows_189 ?_
        refine st_imul dX12_rows_190 ?_
        refine st_iload rfl dX12_rows_191 ?_
        refine st_iadd dX12_rows_193 ?_
        refine st_iconst dX12_rows_194 ?_
        refine st_iadd dX12_rows_195 ?_
        refine st_aload_n (i := 0) rfl (t := 0) rfl (by decide) dX12_rows_196 ?_
        refine so_getA 65 48 fr_X12_86_11 rfl sh_65 fx_65_48 dX12_rows_197 ?_
        refine st_bipush rfl dX12_rows_200 ?_
        refine st_iload rfl dX12_rows_202 ?_
        refine st_iconst dX12_rows_204 ?_
        refine st_iadd dX12_rows_205 ?_
        refine st_imul dX12_rows_206 ?_
        refine st_iload rfl dX12_rows_207 ?_
        refine st_iadd dX12_rows_209 ?_
        refine st_iconst dX12_rows_210 ?_
        refine st_iadd dX12_rows_211 ?_
        refine so_iald (v := ((mset m1 90 ((7 * (x4 + 1)) + x6) v1) 90 (((7 * (x5 + 1)) + x6) + 1))) 90 rfl sh_90 (by decide) (s7 h1 v1 m1 p1 h2 h3) rfl dX12_rows_212 (fun r3 => ?_)
        refine st_iload rfl dX12_rows_213 ?_
        refine st_callS (kc2 := 0) (ks2 := 0) (av := [(0, ((mset m1 90 ((7 * (x4 + 1)) + x6) v1) 90 (((7 * (x5 + 1)) + x6) + 1))), (0, (mem 89 ((7 * x4) + x6)))]) mr_X12_402 ok_X12_added (c2 h1 v1 m1 p1 h2 h3) rfl rfl hd_d2 (Nat.le_refl 0) (Nat.le_refl 0) (Nat.le_of_ble_eq_true rfl) dX12_rows_215 (mQ.elim fun v2 m2 p2 => ?_)
        refine so_iast 90 fr_90 rfl sh_90 (by decide) (s7 h1 v1 m1 p1 h2 h3) (s8 h1 v1 m1 p1 h2 h3 v2 m2 p2) dX12_rows_218 ?_
        refine st_iinc (y := (x6 + 1)) (by decide) (i := 6) rfl rfl (lc' := [(2, 65), (0, x1), (0, x2), (0, x3), (0, x4), (0, x5), (0, (x6 + 1)), (0, (mem 89 ((7 * x4) + x6)))]) rfl dX12_rows_219 ?_
        refine st_goto 112 (by decide) dX12_rows_222 ?_
        exact st_locals [(2, 65), (0, x1), (0, x2), (0, x3), (0, x4), (0, x5), (0, (x6 + 1)), (9, 0)] ⟨Or.inr rfl, Or.inr rfl, Or.inr rfl, Or.inr rfl, Or.inr rfl, Or.inr rfl, Or.inr rfl, Or.inl rfl, trivial⟩ (k4 h1 v1 m1 p1 h2 h3 v2 m2 p2)
theorem bk_X12_rows_234 {d : Nat} {d1 : Nat} {P1 : Int → mmM → Prop} {P : Int → mmM → Prop} {mem : mmM} {x1 x2 x3 x4 : Int}
  (c1 : 175 ≤ x4 → con 0 bX12_added d1 [(0, x2), (0, (mem 89 ((7 * (mem 65 27)) + x1)))] mem P1)
  (k1 : 175 ≤ x4 → ∀ (v1 : Int), ∀ (m1 : mmM), P1 v1 m1 → mmT bX12_rows d 0 0 (mQ 0 P) 55 [(2, 65), (0, x1), (0, v1), (0, (x3 + 1)), (9, 0), (9, 0), (9, 0), (9, 0)] [] mS m1)
  (k2 : x4 < 175 → mmT bX12_rows d 0 0 (mQ 0 P) 234 [(2, 65), (0, x1), (0, x2), (0, x3), (0, (x4 + 1)), (9, 0), (9, 0), (9, 0)] [] mS (mset mem 89 x4 (mem 90 x4)))
  (hd_d1 : d1 + 1 ≤ d := by omega)
  (s1 : R32 x4 := by intros; first | omega | assumption | solve_by_elim)
  (s2 : 175 ≤ x4 → 0 ≤ ((7 * (mem 65 27)) + x1) ∧ ((7 * (mem 65 27)) + x1) < 175 := by intros; first | omega | assumption | solve_by_elim)
  (s3 : x4 < 175 → 0 ≤ x4 ∧ x4 < 175 := by intros; first | omega | assumption | solve_by_elim)
  : mmT bX12_rows d 0 0 (mQ 0 P) 234 [(2, 65), (0, x1), (0, x2), (0, x3), (0, x4), (9, 0), (9, 0), (9, 0)] [] mS mem := by
  refine st_iload rfl dX12_rows_234 ?_
  refine st_aload_n (i := 0) rfl (t := 0) rfl (by decide) dX12_rows_236 ?_
  refine so_getA 65 47 fr_X12_83_11 rfl sh_65 fx_65_47 dX12_rows_237 ?_
  refine so_alen (v := 175) 89 rfl sh_89 (by decide) rfl dX12_rows_240 ?_
  refine sr_icmp_ge 264 s1 ⟨by decide, by decide⟩ (by decide) dX12_rows_241 (fun h1 => ?_) (fun h1 => ?_)
  · have h1 : 175 ≤ x4 := by omega
    refine st_iload_n (i := 2) rfl rfl dX12_rows_264 ?_
    refine st_aload_n (i := 0) rfl (t := 0) rfl (by decide) dX12_rows_265 ?_
    refine so_getA 65 47 fr_X12_83_11 rfl sh_65 fx_65_47 dX12_rows_266 ?_
    refine st_bipush rfl dX12_rows_269 ?_
    refine st_aload_n (i := 0) rfl (t := 0) rfl (by decide) dX12_rows_271 ?_
    refine so_getI (v := (mem 65 27)) 65 27 fr_X12_268_11 rfl sh_65 rfl dX12_rows_272 (fun r1 => ?_)
    refine st_imul dX12_rows_275 ?_
    refine st_iload_n (i := 1) rfl rfl dX12_rows_276 ?_
    refine st_iadd dX12_rows_277 ?_
    refine so_iald (v := (mem 89 ((7 * (mem 65 27)) + x1))) 89 rfl sh_89 (by decide) (s2 h1) rfl dX12_rows_278 (fun r2 => ?_)
    refine st_callS (kc2 := 0) (ks2 := 0) (av := [(0, x2), (0, (mem 89 ((7 * (mem 65 27)) + x1)))]) mr_X12_402 ok_X12_added (c1 h1) rfl rfl hd_d1 (Nat.le_refl 0) (Nat.le_refl 0) (Nat.le_of_ble_eq_true rfl) dX12_rows_279 (mQ.elim fun v1 m1 p1 => ?_)
    refine st_istore_n (i := 2) rfl (by decide) (lc' := [(2, 65), (0, x1), (0, v1), (0, x3), (0, x4), (9, 0), (9, 0), (9, 0)]) rfl dX12_rows_282 ?_
    refine st_iinc (y := (x3 + 1)) (by decide) (i := 3) rfl rfl (lc' := [(2, 65), (0, x1), (0, v1), (0, (x3 + 1)), (0, x4), (9, 0), (9, 0), (9, 0)]) rfl dX12_rows_283 ?_
    refine st_goto 55 (by decide) dX12_rows_286 ?_
    exact st_locals [(2, 65), (0, x1), (0, v1), (0, (x3 + 1)), (9, 0), (9, 0), (9, 0), (9, 0)] ⟨Or.inr rfl, Or.inr rfl, Or.inr rfl, Or.inr rfl, Or.inl rfl, Or.inl rfl, Or.inl rfl, Or.inl rfl, trivial⟩ (k1 h1 v1 m1 p1)
  · have h1 : x4 < 175 := by omega
    refine st_aload_n (i := 0) rfl (t := 0) rfl (by decide) dX12_rows_244 ?_
    refine so_getA 65 47 fr_X12_83_11 rfl sh_65 fx_65_47 dX12_rows_245 ?_
    refine st_iload rfl dX12_rows_248 ?_
    refine st_aload_n (i := 0) rfl (t := 0) rfl (by decide) dX12_rows_250 ?_
    refine so_getA 65 48 fr_X12_86_11 rfl sh_65 fx_65_48 dX12_rows_251 ?_
    refine st_iload rfl dX12_rows_254 ?_
    refine so_iald (v := (mem 90 x4)) 90 rfl sh_90 (by decide) (s3 h1) rfl dX12_rows_256 (fun r3 => ?_)
    refine so_iast 89 fr_89 rfl sh_89 (by decide) (s3 h1) r3 dX12_rows_257 ?_
    refine st_iinc (y := (x4 + 1)) (by decide) (i := 4) rfl rfl (lc' := [(2, 65), (0, x1), (0, x2), (0, x3), (0, (x4 + 1)), (9, 0), (9, 0), (9, 0)]) rfl dX12_rows_258 ?_
    refine st_goto 234 (by decide) dX12_rows_261 ?_
    exact st_locals [(2, 65), (0, x1), (0, x2), (0, x3), (0, (x4 + 1)), (9, 0), (9, 0), (9, 0)] ⟨Or.inr rfl, Or.inr rfl, Or.inr rfl, Or.inr rfl, Or.inr rfl, Or.inl rfl, Or.inl rfl, Or.inl rfl, trivial⟩ (k2 h1)
theorem c_X12_added (mem : mmM) (x0 x1 : Int) (h0 : R32 x0) (h1 : R32 x1) : con 0 bX12_added 1 [(0, x0), (0, x1)] mem (fun v m => v = min 1000000000 (x0 + x1) ∧ m = mem) := cn_X12_added (bk_X12_added_0 ⟨rfl, rfl⟩)
def rmFr (mem m : mmM) : Prop := ∀ a, a ≠ 89 → a ≠ 90 → m a = mem a
theorem c_X12_rows (mem : mmM) (x1 : Int) (h1 : R32 x1) (hp : playM mem) : con 0 bX12_rows 4 [(2, 65), (0, x1)] mem (fun v m => v = (if mem 65 27 = 0 ∨ ¬ (0 ≤ x1 ∧ x1 ≤ 6) then -1 else rwR (mem 65 27) (leapM mem) x1.toNat 0) ∧ rmFr mem m) := by
  have hn := hp.1
  refine cn_X12_rows (bk_X12_rows_0 (fun g g2 => ?_) (fun g => ⟨?_, fun _ _ _ => rfl⟩) (fun g g2 => ⟨?_, fun _ _ _ => rfl⟩))
  rotate_left
  · rw [if_pos (by omega)]
  · rw [if_pos (by omega)]
  rw [if_neg (by omega)]
  have hto : ∀ i, 0 ≤ i → i < mem 65 27 → -1 ≤ leapM mem i ∧ leapM mem i < mem 65 27 := fun i a b => leapM_bnd ⟨a, b⟩
  generalize hn' : mem 65 27 = n at *
  generalize hto' : leapM mem = to at *
  have hZ : rwR n to x1.toNat 0 ≤ 191102976 := by
    have b := rwR_bnd (to := to) hn.2 x1.toNat (s := 0) (by omega)
    have c := p24_6 (j := x1.toNat) (by omega)
    omega
  have wA0 : ∀ q, 0 ≤ q → 0 ≤ rwW n to x1 n q := fun q q0 => rwW_nn hn.2 _ _ q0
  have wN0 : ∀ q, 0 ≤ q → 0 ≤ rwW n to x1 (n + 1) q := fun q q0 => rwW_nn hn.2 _ _ q0
  -- the layers
  have lay : ∀ (t : Nat) (i e : Int) (m : mmM), i + t = 200 → 0 ≤ i → rmFr mem m → (∀ q, 0 ≤ q → q < 175 → 0 ≤ m 89 q ∧ m 89 q ≤ 1000000000) → (∀ q, 0 ≤ q → q < 175 → ¬ m 89 q = 0 → i ≤ q / 7 + 23 * (q % 7)) → 0 ≤ e → sumTo (fun q => m 89 q * rwW n to x1 n q) 175 + e = rwR n to x1.toNat 0 → mmT bX12_rows 4 0 0 (mQ 0 (fun v m => v = rwR n to x1.toNat 0 ∧ rmFr mem m)) 55 [(2, 65), (0, x1), (0, e), (0, i), (9, 0), (9, 0), (9, 0), (9, 0)] [] mS m := by
    intro t
    induction t with
    | zero =>
      intro i e m hi h0 f b far he hs
      have z : sumTo (fun q => m 89 q * rwW n to x1 n q) 175 = 0 := sumTo_0 (fun q q0 q1 => by
        have : m 89 q = 0 := Classical.byContradiction fun z => by
          have := far q q0 q1 z
          omega
        show m 89 q * rwW n to x1 n q = 0
        rw [this, Int.zero_mul])
      refine bk_X12_rows_55 (fun g => by omega) (fun g => ⟨by omega, f⟩)
    | succ t ih =>
      intro i e m hi h0 f b far he hs
      have sA : ∀ c : Nat, c ≤ 175 → 0 ≤ sumTo (fun q => m 89 q * rwW n to x1 n q) c := fun c hc => sumTo_nonneg (fun q q0 q1 => Int.mul_nonneg (b q q0 (by omega)).1 (wA0 q q0))
      refine bk_X12_rows_55 (fun g => ?_) (fun g => by omega)
      -- clear
      refine loop_up (n := 175) (fun u => ∀ m1 : mmM, (∀ a, a ≠ 90 → m1 a = m a) → (∀ q, 0 ≤ q → q < u → m1 90 q = 0) → mmT bX12_rows 4 0 0 (mQ 0 (fun v m => v = rwR n to x1.toNat 0 ∧ rmFr mem m)) 65 [(2, 65), (0, x1), (0, e), (0, i), (0, u), (9, 0), (9, 0), (9, 0)] [] mS m1) (fun u u0 u1 ihu m1 f1 z1 => ?_) 0 (by omega) (by omega) m (fun _ _ => rfl) (fun q q0 q1 => by omega)
      refine bk_X12_rows_65 (fun g1 => ?_) (fun g1 => ihu g1 _ (fun a ha => by rw [mset_ne ha]; exact f1 a ha) (fun q q0 q1 => by
        rw [mset_at]
        split
        · rfl
        · exact z1 q q0 (by omega)))
      -- what holds within a layer
      have fr : ∀ m2 : mmM, (∀ a, a ≠ 90 → m2 a = m a) → rmFr mem m2 := fun m2 h a a1 a2 => (h a a2).trans (f a a1 a2)
      have pl : ∀ m2 : mmM, rmFr mem m2 → playM m2 ∧ m2 65 27 = n ∧ leapM m2 = to := fun m2 h => by
        have e65 := h 65 (by decide) (by decide)
        have e79 := h 79 (by decide) (by decide)
        have e80 := h 80 (by decide) (by decide)
        exact ⟨playM_congr hp (by rw [e65]) e79 e80 (h 81 (by decide) (by decide)), by rw [e65, hn'], by rw [← hto']; exact leapM_congr (by rw [e65]) e79 e80 (h 83 (by decide) (by decide))⟩
      refine loop_up (n := n) (fun s => ∀ m2 : mmM, (∀ a, a ≠ 90 → m2 a = m a) → (∀ q, 0 ≤ q → q < 175 → 0 ≤ m2 90 q ∧ m2 90 q ≤ 1000000000) → (∀ q, 0 ≤ q → q < 175 → ¬ m2 90 q = 0 → i + 1 ≤ q / 7 + 23 * (q % 7)) → sumTo (fun q => m2 90 q * rwW n to x1 (n + 1) q) 175 + (sumTo (fun q => m 89 q * rwW n to x1 n q) 175 - sumTo (fun q => m 89 q * rwW n to x1 n q) (7 * s).toNat) + e = rwR n to x1.toNat 0 → mmT bX12_rows 4 0 0 (mQ 0 (fun v m => v = rwR n to x1.toNat 0 ∧ rmFr mem m)) 92 [(2, 65), (0, x1), (0, e), (0, i), (0, s), (9, 0), (9, 0), (9, 0)] [] mS m2) (fun s s0 s1 ihs m2 f2 b2 far2 h2 => ?_) 0 (by omega) hn.1 m1 f1 (fun q q0 q1 => by rw [z1 q q0 (by omega)]; omega) (fun q q0 q1 z => absurd (z1 q q0 (by omega)) z) (by
        rw [sumTo_0 (fun q q0 q1 => by show m1 90 q * _ = 0; rw [z1 q q0 (by omega), Int.zero_mul])]
        show 0 + (sumTo (fun q => m 89 q * rwW n to x1 n q) 175 - 0) + e = _
        omega)
      have p2' := pl m2 (fr m2 f2)
      have e89 : m2 89 = m 89 := f2 89 (by decide)
      refine bk_X12_rows_92 (fun g2 => ?_) (fun g2 => ?_) (s2 := fun _ => p2'.1) (s3 := fun g2 => ⟨s0, g2⟩)
      · -- copied
        rw [p2'.2.1] at g2
        have eT : sumTo (fun q => m2 90 q * rwW n to x1 (n + 1) q) 175 + e = rwR n to x1.toNat 0 := by
          have fl := sumTo_flat (f := fun q => m 89 q * rwW n to x1 n q) (a := (7 * s).toNat) (175 - (7 * s).toNat) (fun q q0 q1 => by
            have : rwW n to x1 n q = 0 := if_neg (fun z => by omega)
            show m 89 q * rwW n to x1 n q = 0
            rw [this, Int.mul_zero])
          rw [show (7 * s).toNat + (175 - (7 * s).toNat) = 175 by omega] at fl
          omega
        refine loop_up (n := 175) (fun u => ∀ m3 : mmM, (∀ a, a ≠ 89 → m3 a = m2 a) → (∀ q, 0 ≤ q → q < u → m3 89 q = m2 90 q) → mmT bX12_rows 4 0 0 (mQ 0 (fun v m => v = rwR n to x1.toNat 0 ∧ rmFr mem m)) 234 [(2, 65), (0, x1), (0, e), (0, i), (0, u), (9, 0), (9, 0), (9, 0)] [] mS m3) (fun u u0 u1 ihu3 m3 f3 z3 => ?_) 0 (by omega) (by omega) m2 (fun _ _ => rfl) (fun q q0 q1 => by omega)
        have e65 : m3 65 27 = n := by rw [f3 65 (by decide)]; exact p2'.2.1
        have sN : 0 ≤ sumTo (fun q => m2 90 q * rwW n to x1 (n + 1) q) 175 := sumTo_nonneg (fun q q0 q1 => Int.mul_nonneg (b2 q q0 q1).1 (wN0 q q0))
        refine bk_X12_rows_234 (d1 := 1) (P1 := fun v m' => v = min 1000000000 (e + m3 89 (7 * m3 65 27 + x1)) ∧ m' = m3) (fun g3 => c_X12_added m3 _ _ (by omega) ?_) (fun g3 v m4 w => ?_) (fun g3 => ihu3 g3 _ (fun a ha => by rw [mset_ne ha]; exact f3 a ha) (fun q q0 q1 => ?_)) (s2 := fun _ => by rw [e65]; omega)
        · rw [e65, z3 _ (by omega) (by omega)]
          have := b2 (7 * n + x1) (by omega) (by omega)
          omega
        · rw [w.2, w.1, e65, z3 _ (by omega) (by omega)]
          have bl := b2 (7 * n + x1) (by omega) (by omega)
          have eW : sumTo (fun q => m2 90 q * rwW n to x1 (n + 1) q) 175 = sumTo (fun q => m2 90 q * rwW n to x1 n q) 175 + m2 90 (7 * n + x1) := by
            have u1 := sumTo_upd (fun q => m2 90 q * rwW n to x1 n q) (7 * n + x1) (m2 90 (7 * n + x1)) 175 (by omega)
            have z : m2 90 (7 * n + x1) * rwW n to x1 n (7 * n + x1) = 0 := by
              have : rwW n to x1 n (7 * n + x1) = 0 := if_neg (fun z => by omega)
              rw [this, Int.mul_zero]
            rw [z] at u1
            rw [show sumTo (fun q => m2 90 q * rwW n to x1 n q) 175 + m2 90 (7 * n + x1) = sumTo (fun q => m2 90 q * rwW n to x1 n q) 175 - 0 + m2 90 (7 * n + x1) by omega, ← u1]
            refine sumTo_congr (fun q q0 q1 => ?_)
            unfold updF
            split
            · rename_i eq
              rw [eq, rwW_at (by omega) (by omega) (by omega), rwR_end, if_pos (by omega), Int.mul_one]
            · rename_i ne
              show m2 90 q * rwW n to x1 (n + 1) q = m2 90 q * rwW n to x1 n q
              by_cases c1 : q / 7 < n
              · unfold rwW
                by_cases c2 : q % 7 ≤ x1
                · rw [if_pos ⟨by omega, c2⟩, if_pos ⟨c1, c2⟩]
                · rw [if_neg (fun z => c2 z.2), if_neg (fun z => c2 z.2)]
              · have r0 : rwW n to x1 n q = 0 := if_neg (fun z => c1 z.1)
                have r1 : rwW n to x1 (n + 1) q = 0 := by
                  unfold rwW
                  split
                  · rename_i c2
                    rw [show q / 7 = n by omega, rwR_end, if_neg (by omega)]
                  · rfl
                rw [r0, r1]
          have le : m2 90 (7 * n + x1) ≤ rwR n to x1.toNat 0 := by
            have : 0 ≤ sumTo (fun q => m2 90 q * rwW n to x1 n q) 175 := sumTo_nonneg (fun q q0 q1 => Int.mul_nonneg (b2 q q0 q1).1 (wA0 q q0))
            omega
          have le2 : e + m2 90 (7 * n + x1) ≤ rwR n to x1.toNat 0 := by
            have : 0 ≤ sumTo (fun q => m2 90 q * rwW n to x1 n q) 175 := sumTo_nonneg (fun q q0 q1 => Int.mul_nonneg (b2 q q0 q1).1 (wA0 q q0))
            omega
          rw [show min 1000000000 (e + m2 90 (7 * n + x1)) = e + m2 90 (7 * n + x1) by omega]
          refine ih (i + 1) _ m3 (by omega) (by omega) (fun a a1 a2 => (f3 a a1).trans (fr m2 f2 a a1 a2)) (fun q q0 q1 => by rw [z3 q q0 (by omega)]; exact b2 q q0 q1) (fun q q0 q1 z => by rw [z3 q q0 (by omega)] at z; exact far2 q q0 q1 z) (by omega) ?_
          have : sumTo (fun q => m3 89 q * rwW n to x1 n q) 175 = sumTo (fun q => m2 90 q * rwW n to x1 n q) 175 := sumTo_congr (fun q q0 q1 => by rw [z3 q q0 (by omega)])
          rw [this]
          omega
        · rw [mset_at]
          split
          · rename_i eq
            rw [eq, f3 90 (by decide)]
          · exact z3 q q0 (by omega)
      · -- each number of losses
        rw [p2'.2.1] at g2
        rw [p2'.2.2]
        have ts := hto s s0 g2
        refine loop_up (n := x1 + 1) (fun j => ∀ m3 : mmM, (∀ a, a ≠ 90 → m3 a = m a) → (∀ q, 0 ≤ q → q < 175 → 0 ≤ m3 90 q ∧ m3 90 q ≤ 1000000000) → (∀ q, 0 ≤ q → q < 175 → ¬ m3 90 q = 0 → i + 1 ≤ q / 7 + 23 * (q % 7)) → sumTo (fun q => m3 90 q * rwW n to x1 (n + 1) q) 175 + (sumTo (fun q => m 89 q * rwW n to x1 n q) 175 - sumTo (fun q => m 89 q * rwW n to x1 n q) (7 * s + j).toNat) + e = rwR n to x1.toNat 0 → mmT bX12_rows 4 0 0 (mQ 0 (fun v m => v = rwR n to x1.toNat 0 ∧ rmFr mem m)) 112 [(2, 65), (0, x1), (0, e), (0, i), (0, s), (0, to s), (0, j), (9, 0)] [] mS m3) (fun j j0 j1 ihj m3 f3 b3 far3 h3 => ?_) 0 (by omega) (by omega) m2 f2 b2 far2 (by rw [Int.add_zero]; exact h2)
        have e89' : m3 89 = m 89 := f3 89 (by decide)
        have bs := b (7 * s + j) (by omega)
        -- the weights at work
        have tl : j ≤ x1 → sumTo (fun q => m 89 q * rwW n to x1 n q) (7 * s + (j + 1)).toNat = sumTo (fun q => m 89 q * rwW n to x1 n q) (7 * s + j).toNat + m 89 (7 * s + j) * rwR n to (x1 - j).toNat s := by
          intro g3
          rw [show (7 * s + (j + 1)).toNat = (7 * s + j).toNat + 1 by omega]
          show _ + m 89 (((7 * s + j).toNat : Nat) : Int) * rwW n to x1 n (((7 * s + j).toNat : Nat) : Int) = _
          rw [show (((7 * s + j).toNat : Nat) : Int) = 7 * s + j by omega, rwW_at g2 ⟨j0, g3⟩ (by omega)]
        have tot : j ≤ x1 → sumTo (fun q => m 89 q * rwW n to x1 n q) (7 * s + (j + 1)).toNat ≤ sumTo (fun q => m 89 q * rwW n to x1 n q) 175 := by
          intro g3
          have mono : ∀ (c d : Nat), c + d ≤ 175 → sumTo (fun q => m 89 q * rwW n to x1 n q) c ≤ sumTo (fun q => m 89 q * rwW n to x1 n q) (c + d) := by
            intro c d
            induction d with
            | zero => intro _; exact Int.le_refl _
            | succ d ihd =>
              intro hd
              have := ihd (by omega)
              have : 0 ≤ m 89 ((c + d : Nat) : Int) * rwW n to x1 n ((c + d : Nat) : Int) := Int.mul_nonneg (b _ (by omega) (by omega)).1 (wA0 _ (by omega))
              show _ ≤ sumTo (fun q => m 89 q * rwW n to x1 n q) (c + d) + m 89 ((c + d : Nat) : Int) * rwW n to x1 n ((c + d : Nat) : Int)
              omega
          have := mono (7 * s + (j + 1)).toNat (175 - (7 * s + (j + 1)).toNat) (by omega)
          rw [show (7 * s + (j + 1)).toNat + (175 - (7 * s + (j + 1)).toNat) = 175 by omega] at this
          exact this
        have w1 : j ≤ x1 → rwW n to x1 (n + 1) (7 * (s + 1) + j) = rwR n to (x1 - j).toNat (s + 1) := fun g3 => rwW_at (by omega) ⟨j0, g3⟩ (by omega)
        have w2 : 0 ≤ to s → j < x1 → rwW n to x1 (n + 1) (7 * (to s + 1) + j + 1) = rwR n to (x1 - (j + 1)).toNat (to s + 1) := fun g3 g4 => by
          rw [show 7 * (to s + 1) + j + 1 = 7 * (to s + 1) + (j + 1) by omega]
          exact rwW_at (by omega) ⟨by omega, by omega⟩ (by omega)
        have rb : ∀ (c : Nat) (z : Int), 0 ≤ z → 0 ≤ rwR n to c z := fun c z hz => (rwR_bnd hn.2 c hz).1
        -- how the rows from here divide
        have dv1 : j ≤ x1 → (to s = -1 ∨ x1 ≤ j) → rwR n to (x1 - j).toNat s = rwR n to (x1 - j).toNat (s + 1) := by
          intro g3 g4
          rcases Int.lt_or_le j x1 with c | c
          · rw [show (x1 - j).toNat = (x1 - j - 1).toNat + 1 by omega, rwR_step n to _ g2, if_neg (by omega), Int.add_zero]
          · rw [show (x1 - j).toNat = 0 by omega]
            rfl
        have dv2 : j < x1 → ¬ to s = -1 → rwR n to (x1 - j).toNat s = rwR n to (x1 - j).toNat (s + 1) + rwR n to (x1 - (j + 1)).toNat (to s + 1) := by
          intro g3 g4
          rw [show (x1 - j).toNat = (x1 - (j + 1)).toNat + 1 by omega, rwR_step n to _ g2, if_pos ⟨by omega, ts.2⟩]
        have ad : ∀ (T : Int → Int) (idx : Int), (∀ q, 0 ≤ q → q < 175 → 0 ≤ T q ∧ T q ≤ 1000000000) → 0 ≤ idx ∧ idx < 175 → 0 ≤ min 1000000000 (T idx + m 89 (7 * s + j)) ∧ min 1000000000 (T idx + m 89 (7 * s + j)) ≤ 1000000000 := by
          intro T idx hT hi
          have := hT idx hi.1 hi.2
          omega
        have upB : ∀ (T : Int → Int) (idx x : Int), (∀ q, 0 ≤ q → q < 175 → 0 ≤ T q ∧ T q ≤ 1000000000) → (0 ≤ x ∧ x ≤ 1000000000) → ∀ q, 0 ≤ q → q < 175 → 0 ≤ updF T idx x q ∧ updF T idx x q ≤ 1000000000 := by
          intro T idx x hT hx q q0 q1
          unfold updF
          split
          · exact hx
          · exact hT q q0 q1
        have upF : ∀ (T : Int → Int) (idx : Int), (0 ≤ idx ∧ idx < 175) → (∀ q, 0 ≤ q → q < 175 → ¬ T q = 0 → i + 1 ≤ q / 7 + 23 * (q % 7)) → (¬ m 89 (7 * s + j) = 0 → i + 1 ≤ idx / 7 + 23 * (idx % 7)) → ∀ q, 0 ≤ q → q < 175 → ¬ updF T idx (min 1000000000 (T idx + m 89 (7 * s + j))) q = 0 → i + 1 ≤ q / 7 + 23 * (q % 7) := by
          intro T idx hi hT hx q q0 q1 z
          unfold updF at z
          by_cases c : q = idx
          · rw [if_pos c] at z
            rw [c]
            by_cases c2 : m 89 (7 * s + j) = 0
            · refine hT idx hi.1 hi.2 (fun c3 => z ?_)
              rw [c2, c3]
              rfl
            · exact hx c2
          · rw [if_neg c] at z
            exact hT q q0 q1 z
        have far2x : j ≤ x1 → ¬ to s = -1 → j < x1 → ¬ m 89 (7 * s + j) = 0 → i + 1 ≤ (7 * (to s + 1) + j + 1) / 7 + 23 * ((7 * (to s + 1) + j + 1) % 7) := by
          intro c1 c2 c3 z
          have z2 := far (7 * s + j) (by omega) (by omega) z
          have h1 : (7 * s + j) / 7 = s := by omega
          have h2 : (7 * s + j) % 7 = j := by omega
          have h3 : (7 * (to s + 1) + j + 1) / 7 = to s + 1 := by omega
          have h4 : (7 * (to s + 1) + j + 1) % 7 = j + 1 := by omega
          rw [h1, h2] at z2
          rw [h3, h4]
          omega
        have t0 := ad (m3 90) (7 * (s + 1) + j) b3
        have B1 := upB (m3 90) (7 * (s + 1) + j) (min 1000000000 (m3 90 (7 * (s + 1) + j) + m 89 (7 * s + j))) b3
        have set90 : ∀ (M : mmM) (idx x : Int), mset M 90 idx x 90 = updF (M 90) idx x := fun M idx x => by
          funext q
          rw [mset_at]
          rfl
        have S1 : j ≤ x1 → sumTo (fun q => updF (m3 90) (7 * (s + 1) + j) (min 1000000000 (m3 90 (7 * (s + 1) + j) + m 89 (7 * s + j))) q * rwW n to x1 (n + 1) q) 175 = sumTo (fun q => m3 90 q * rwW n to x1 (n + 1) q) 175 + m 89 (7 * s + j) * rwR n to (x1 - j).toNat (s + 1) := by
          intro g3
          have a := tl g3
          have c := tot g3
          have k0 := (bs (by omega)).1
          rw [← w1 g3]
          refine rw_add (Z := rwR n to x1.toNat 0) (rest := (sumTo (fun q => m 89 q * rwW n to x1 n q) 175 - sumTo (fun q => m 89 q * rwW n to x1 n q) (7 * s + j).toNat) + e) (fun q q0 q1 => (b3 q q0 q1).1) wN0 (by omega) k0 (by omega) ?_ hZ
          rw [w1 g3]
          have : m 89 (7 * s + j) * rwR n to (x1 - j).toNat (s + 1) ≤ m 89 (7 * s + j) * rwR n to (x1 - j).toNat s := by
            refine Int.mul_le_mul_of_nonneg_left ?_ k0
            rcases Int.lt_or_le j x1 with q | q
            · by_cases q2 : to s = -1
              · rw [dv1 g3 (Or.inl q2)]
                exact Int.le_refl _
              · rw [dv2 q q2]
                have := rb (x1 - (j + 1)).toNat (to s + 1) (by omega)
                omega
            · rw [dv1 g3 (Or.inr q)]
              exact Int.le_refl _
          omega
        refine bk_X12_rows_112 (d1 := 1) (d2 := 1) (P1 := fun v m' => v = min 1000000000 (m3 90 (7 * (s + 1) + j) + m 89 (7 * s + j)) ∧ m' = m3) (P2 := fun v m' => v = min 1000000000 (updF (m3 90) (7 * (s + 1) + j) (min 1000000000 (m3 90 (7 * (s + 1) + j) + m 89 (7 * s + j))) (7 * (to s + 1) + j + 1) + m 89 (7 * s + j)) ∧ m' = mset m3 90 (7 * (s + 1) + j) (min 1000000000 (m3 90 (7 * (s + 1) + j) + m 89 (7 * s + j)))) (fun g3 => ?_) (fun g3 v m4 w g4 g5 => ?_) (fun g3 => ?_) (fun g3 v m4 w g4 => ?_) (fun g3 v m4 w g4 g5 => ?_) (fun g3 v m4 w g4 g5 v5 m5 w5 => ?_) (s3 := fun _ => by omega) (s4 := fun _ => by omega) (s5 := fun g3 v m4 w => by have := t0 (by omega); rw [w.1]; omega) (s6 := fun _ _ _ _ => by omega) (s7 := fun _ _ _ _ _ _ => by omega) (s8 := fun g3 _ _ _ g4 g5 v5 m5 w5 => by have := ad _ (7 * (to s + 1) + j + 1) (B1 (t0 (by omega))) (by omega); rw [w5.1]; omega)
        · rw [e89']
          have q1 := b3 (7 * (s + 1) + j) (by omega) (by omega)
          have q2 := bs (by omega)
          exact c_X12_added m3 _ _ (by omega) (by omega)
        · rw [e89', w.2, w.1, set90]
          have q1 := B1 (t0 (by omega)) (7 * (to s + 1) + j + 1) (by omega) (by omega)
          have q2 := bs (by omega)
          exact c_X12_added _ _ _ (by omega) (by omega)
        · refine ihs g2 m3 f3 b3 far3 ?_
          have fl := sumTo_flat (f := fun q => m 89 q * rwW n to x1 n q) (a := (7 * s + j).toNat) ((7 * (s + 1)).toNat - (7 * s + j).toNat) (fun q q0 q1 => by
            have : rwW n to x1 n q = 0 := if_neg (fun z => by omega)
            show m 89 q * rwW n to x1 n q = 0
            rw [this, Int.mul_zero])
          rw [show (7 * s + j).toNat + ((7 * (s + 1)).toNat - (7 * s + j).toNat) = (7 * (s + 1)).toNat by omega] at fl
          rw [fl]
          exact h3
        · rw [w.2, w.1]
          refine ihj (by omega) _ (fun a ha => by rw [mset_ne ha]; exact f3 a ha) (by rw [set90]; exact B1 (t0 (by omega))) (by rw [set90]; exact upF _ _ (by omega) far3 (fun z => by have := far (7 * s + j) (by omega) (by omega) z; omega)) ?_
          rw [set90, S1 g3, tl g3, dv1 g3 (Or.inl g4)]
          omega
        · rw [w.2, w.1]
          refine ihj (by omega) _ (fun a ha => by rw [mset_ne ha]; exact f3 a ha) (by rw [set90]; exact B1 (t0 (by omega))) (by rw [set90]; exact upF _ _ (by omega) far3 (fun z => by have := far (7 * s + j) (by omega) (by omega) z; omega)) ?_
          rw [set90, S1 g3, tl g3, dv1 g3 (Or.inr g5)]
          omega
        · rw [w5.2, w5.1]
          have B1' := B1 (t0 (by omega))
          have k0 := (bs (by omega)).1
          refine ihj (by omega) _ (fun a ha => by rw [mset_ne ha, mset_ne ha]; exact f3 a ha) ?_ ?_ ?_
          · rw [set90, set90]
            exact upB _ _ _ B1' (ad _ _ B1' (by omega))
          · rw [set90, set90]
            exact upF _ _ (by omega) (upF _ _ (by omega) far3 (fun z => by have := far (7 * s + j) (by omega) (by omega) z; omega)) (far2x (by omega) g4 g5)
          · have a := tl g3
            have c := tot g3
            have s1' := S1 g3
            have dd : m 89 (7 * s + j) * rwR n to (x1 - j).toNat s = m 89 (7 * s + j) * rwR n to (x1 - j).toNat (s + 1) + m 89 (7 * s + j) * rwR n to (x1 - (j + 1)).toNat (to s + 1) := by rw [dv2 g5 g4, Int.mul_add]
            rw [set90, set90]
            have S2 := rw_add (T := updF (m3 90) (7 * (s + 1) + j) (min 1000000000 (m3 90 (7 * (s + 1) + j) + m 89 (7 * s + j)))) (w := rwW n to x1 (n + 1)) (idx := 7 * (to s + 1) + j + 1) (v := m 89 (7 * s + j)) (Z := rwR n to x1.toNat 0) (rest := (sumTo (fun q => m 89 q * rwW n to x1 n q) 175 - sumTo (fun q => m 89 q * rwW n to x1 n q) (7 * s + j).toNat) + e - m 89 (7 * s + j) * rwR n to (x1 - j).toNat (s + 1)) (fun q q0 q1 => (B1' q q0 q1).1) wN0 (by omega) k0 (by omega) (by rw [w2 (by omega) g5]; omega) hZ
            rw [S2, w2 (by omega) g5, s1', a]
            omega
  -- the first row
  have ini : ∀ (u : Int), 0 ≤ u → u ≤ 175 → ∀ m : mmM, (∀ a, a ≠ 89 → m a = mem a) → (∀ q, 0 ≤ q → q < u → m 89 q = if q = 0 then 1 else 0) → mmT bX12_rows 4 0 0 (mQ 0 (fun v m => v = rwR n to x1.toNat 0 ∧ rmFr mem m)) 21 [(2, 65), (0, x1), (0, u), (9, 0), (9, 0), (9, 0), (9, 0), (9, 0)] [] mS m := by
    refine loop_up (n := 175) (fun u => ∀ m : mmM, (∀ a, a ≠ 89 → m a = mem a) → (∀ q, 0 ≤ q → q < u → m 89 q = if q = 0 then 1 else 0) → mmT bX12_rows 4 0 0 (mQ 0 (fun v m => v = rwR n to x1.toNat 0 ∧ rmFr mem m)) 21 [(2, 65), (0, x1), (0, u), (9, 0), (9, 0), (9, 0), (9, 0), (9, 0)] [] mS m) (fun u u0 u1 ih m f z => ?_)
    have st : ∀ v, v = (if u = 0 then 1 else 0) → u < 175 → mmT bX12_rows 4 0 0 (mQ 0 (fun v m => v = rwR n to x1.toNat 0 ∧ rmFr mem m)) 21 [(2, 65), (0, x1), (0, u + 1), (9, 0), (9, 0), (9, 0), (9, 0), (9, 0)] [] mS (mset m 89 u v) := by
      intro v hv g1
      refine ih g1 _ (fun a ha => by rw [mset_ne ha]; exact f a ha) (fun q q0 q1 => ?_)
      rw [mset_at]
      split
      · rename_i eq
        rw [hv, eq]
      · exact z q q0 (by omega)
    refine bk_X12_rows_21 (fun g1 => ?_) (fun g1 g2 => st 0 (by rw [if_neg g2]) g1) (fun g1 g2 => st 1 (by rw [if_pos g2]) g1)
    have zz : ∀ q, 0 ≤ q → q < 175 → m 89 q = if q = 0 then 1 else 0 := fun q q0 q1 => z q q0 (by omega)
    refine lay 200 0 0 m rfl (by omega) (fun a a1 _ => f a a1) (fun q q0 q1 => ?_) (fun q q0 q1 _ => by omega) (by omega) ?_
    · rw [zz q q0 q1]
      split <;> omega
    · have e1 : sumTo (fun q => m 89 q * rwW n to x1 n q) 175 = sumTo (updF (fun _ => 0) 0 (rwR n to x1.toNat 0)) 175 := sumTo_congr (fun q q0 q1 => by
        show m 89 q * rwW n to x1 n q = updF (fun _ => 0) 0 (rwR n to x1.toNat 0) q
        rw [zz q q0 q1]
        unfold updF
        split
        · rename_i eq
          rw [eq]
          have := rwW_at (n := n) (to := to) (k := x1) (top := n) (s := 0) (j := 0) (by omega) (by omega) (by omega)
          rw [show (7 : Int) * 0 + 0 = 0 by omega] at this
          rw [this, Int.sub_zero, Int.one_mul]
        · rw [Int.zero_mul])
      rw [e1, sumTo_upd _ _ _ _ (by omega), sumTo_0 (f := fun _ => 0) (fun _ _ _ => rfl)]
      omega
  exact ini 0 (by omega) (by omega) mem (fun _ _ => rfl) (fun q q0 q1 => by omega)
