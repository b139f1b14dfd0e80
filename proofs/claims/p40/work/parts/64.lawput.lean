/-! a law put into its place -/
theorem cn_X2_put_11 {d : Nat} {P : mmM → Prop} {mem : mmM} (h : mmT bX2_put d 0 0 (mQv P) 0 [(2, 11), (2, 8), (9, 0)] [] mS mem) : conv bX2_put d [(2, 11), (2, 8)] mem P := mmC_of [(2, 11), (2, 8), (9, 0)] ok_X2_put.2.2.2.2 rfl (Nat.le_of_ble_eq_true rfl) h
theorem bk_X2_put_11_0 {d : Nat} {P : mmM → Prop} {mem : mmM}
  (k1 : mmT bX2_put d 0 0 (mQv P) 18 [(2, 11), (2, 8), (0, 0)] [] mS (mset mem 11 1 (min (mem 8 2) 160)))
  (hd1 : 1 ≤ d := by omega)
  : mmT bX2_put d 0 0 (mQv P) 0 [(2, 11), (2, 8), (9, 0)] [] mS mem := by
  refine st_aload_n (i := 0) rfl (t := 0) rfl (by decide) dX2_put_0 ?_
  refine st_aload_n (i := 1) rfl (t := 0) rfl (by decide) dX2_put_1 ?_
  refine so_getI (v := (mem 8 2)) 8 2 fr_X2_18_3 rfl sh_8 rfl dX2_put_2 (fun r1 => ?_)
  refine st_aload_n (i := 0) rfl (t := 0) rfl (by decide) dX2_put_5 ?_
  refine so_getA 11 0 fr_X2_11_2 rfl sh_11 fx_11_0 dX2_put_6 ?_
  refine so_alen (v := 160) 12 rfl sh_12 (by decide) rfl dX2_put_9 ?_
  refine sr_mmin r1 ⟨by decide, by decide⟩ mr_X2_24 ms_mini mi_Math mc_mini hd1 (Nat.le_of_ble_eq_true rfl) dX2_put_10 ?_
  refine so_putI 11 1 fr_X2_30_2 pf_2_1 fo_11_1 rfl sh_11 (imin32_rng r1 ⟨by decide, by decide⟩) dX2_put_13 ?_
  refine st_iconst dX2_put_16 ?_
  refine st_istore_n (i := 2) rfl (by decide) (lc' := [(2, 11), (2, 8), (0, 0)]) rfl dX2_put_17 ?_
  exact st_locals [(2, 11), (2, 8), (0, 0)] ⟨Or.inr rfl, Or.inr rfl, Or.inr rfl, trivial⟩ k1
theorem bk_X2_put_11_18 {d : Nat} {P : mmM → Prop} {mem : mmM} {x2 : Int}
  (k1 : x2 < (mem 11 1) → mmT bX2_put d 0 0 (mQv P) 18 [(2, 11), (2, 8), (0, (x2 + 1))] [] mS (mset mem 12 x2 (mem 9 x2)))
  (q1 : (mem 11 1) ≤ x2 → P mem)
  (s1 : R32 x2 := by intros; first | omega | assumption | solve_by_elim)
  (s2 : x2 < (mem 11 1) → 0 ≤ x2 ∧ x2 < 160 := by intros; first | omega | assumption | solve_by_elim)
  : mmT bX2_put d 0 0 (mQv P) 18 [(2, 11), (2, 8), (0, x2)] [] mS mem := by
  refine st_iload_n (i := 2) rfl rfl dX2_put_18 ?_
  refine st_aload_n (i := 0) rfl (t := 0) rfl (by decide) dX2_put_19 ?_
  refine so_getI (v := (mem 11 1)) 11 1 fr_X2_30_2 rfl sh_11 rfl dX2_put_20 (fun r1 => ?_)
  refine sr_icmp_ge 44 s1 r1 (by decide) dX2_put_23 (fun h1 => ?_) (fun h1 => ?_)
  · have h1 : (mem 11 1) ≤ x2 := by omega
    exact st_return rfl dX2_put_44 (mQv.ret (q1 h1))
  · have h1 : x2 < (mem 11 1) := by omega
    refine st_aload_n (i := 0) rfl (t := 0) rfl (by decide) dX2_put_26 ?_
    refine so_getA 11 0 fr_X2_11_2 rfl sh_11 fx_11_0 dX2_put_27 ?_
    refine st_iload_n (i := 2) rfl rfl dX2_put_30 ?_
    refine st_aload_n (i := 1) rfl (t := 0) rfl (by decide) dX2_put_31 ?_
    refine so_getA 8 1 fr_X2_31_3 rfl sh_8 fx_8_1 dX2_put_32 ?_
    refine st_iload_n (i := 2) rfl rfl dX2_put_35 ?_
    refine so_iald (v := (mem 9 x2)) 9 rfl sh_9 (by decide) (s2 h1) rfl dX2_put_36 (fun r2 => ?_)
    refine so_iast 12 fr_12 rfl sh_12 (by decide) (s2 h1) r2 dX2_put_37 ?_
    refine st_iinc (y := (x2 + 1)) (by decide) (i := 2) rfl rfl (lc' := [(2, 11), (2, 8), (0, (x2 + 1))]) rfl dX2_put_38 ?_
    refine st_goto 18 (by decide) dX2_put_41 ?_
    exact st_locals [(2, 11), (2, 8), (0, (x2 + 1))] ⟨Or.inr rfl, Or.inr rfl, Or.inr rfl, trivial⟩ (k1 h1)
theorem c_X2_put_11 (mem : mmM) (h : 0 ≤ mem 8 2 ∧ mem 8 2 ≤ 160) : conv bX2_put 1 [(2, 11), (2, 8)] mem (fun m => (∀ a, a ≠ 11 → a ≠ 12 → m a = mem a) ∧ (∀ j, j ≠ 1 → m 11 j = mem 11 j) ∧ m 11 1 = mem 8 2 ∧ ∀ i, 0 ≤ i → i < mem 8 2 → m 12 i = mem 9 i) := by
  refine cn_X2_put_11 (bk_X2_put_11_0 ?_)
  rw [show min (mem 8 2) 160 = mem 8 2 by omega]
  refine loop_up (n := mem 8 2) (fun i => ∀ m, (∀ a, a ≠ 11 → a ≠ 12 → m a = mem a) → (∀ j, j ≠ 1 → m 11 j = mem 11 j) → m 11 1 = mem 8 2 → (∀ k, 0 ≤ k → k < i → m 12 k = mem 9 k) → mmT bX2_put 1 0 0 (mQv (fun m => (∀ a, a ≠ 11 → a ≠ 12 → m a = mem a) ∧ (∀ j, j ≠ 1 → m 11 j = mem 11 j) ∧ m 11 1 = mem 8 2 ∧ ∀ i, 0 ≤ i → i < mem 8 2 → m 12 i = mem 9 i)) 18 [(2, 11), (2, 8), (0, i)] [] mS m) (fun i i0 i1 ih m f1 f2 f3 f4 => ?_) 0 (by omega) (by omega) _ (fun a a1 _ => mset_ne a1) (fun j hj => by rw [mset_at, if_neg hj]) (mset_same _ _ _ _) (fun k k0 k1 => by omega)
  have e9 : m 9 = mem 9 := f1 9 (by decide) (by decide)
  refine bk_X2_put_11_18 (fun g => ih (by omega) _ (fun a a1 a2 => ?_) (fun j hj => ?_) ?_ (fun k k0 k1 => ?_)) (fun g => ⟨f1, f2, f3, fun k k0 k1 => f4 k k0 (by omega)⟩) (s1 := ⟨by omega, by omega⟩) (s2 := fun _ => by omega)
  · rw [mset_ne a2]
    exact f1 a a1 a2
  · rw [mset_ne (by decide)]
    exact f2 j hj
  · rw [mset_ne (by decide)]
    exact f3
  · rw [mset_at, e9]
    split
    · rename_i q
      rw [q]
    · exact f4 k k0 (by omega)
theorem cn_X2_put_14 {d : Nat} {P : mmM → Prop} {mem : mmM} (h : mmT bX2_put d 0 0 (mQv P) 0 [(2, 14), (2, 8), (9, 0)] [] mS mem) : conv bX2_put d [(2, 14), (2, 8)] mem P := mmC_of [(2, 14), (2, 8), (9, 0)] ok_X2_put.2.2.2.2 rfl (Nat.le_of_ble_eq_true rfl) h
theorem bk_X2_put_14_0 {d : Nat} {P : mmM → Prop} {mem : mmM}
  (k1 : mmT bX2_put d 0 0 (mQv P) 18 [(2, 14), (2, 8), (0, 0)] [] mS (mset mem 14 1 (min (mem 8 2) 160)))
  (hd1 : 1 ≤ d := by omega)
  : mmT bX2_put d 0 0 (mQv P) 0 [(2, 14), (2, 8), (9, 0)] [] mS mem := by
  refine st_aload_n (i := 0) rfl (t := 0) rfl (by decide) dX2_put_0 ?_
  refine st_aload_n (i := 1) rfl (t := 0) rfl (by decide) dX2_put_1 ?_
  refine so_getI (v := (mem 8 2)) 8 2 fr_X2_18_3 rfl sh_8 rfl dX2_put_2 (fun r1 => ?_)
  refine st_aload_n (i := 0) rfl (t := 0) rfl (by decide) dX2_put_5 ?_
  refine so_getA 14 0 fr_X2_11_2 rfl sh_14 fx_14_0 dX2_put_6 ?_
  refine so_alen (v := 160) 15 rfl sh_15 (by decide) rfl dX2_put_9 ?_
  refine sr_mmin r1 ⟨by decide, by decide⟩ mr_X2_24 ms_mini mi_Math mc_mini hd1 (Nat.le_of_ble_eq_true rfl) dX2_put_10 ?_
  refine so_putI 14 1 fr_X2_30_2 pf_2_1 fo_14_1 rfl sh_14 (imin32_rng r1 ⟨by decide, by decide⟩) dX2_put_13 ?_
  refine st_iconst dX2_put_16 ?_
  refine st_istore_n (i := 2) rfl (by decide) (lc' := [(2, 14), (2, 8), (0, 0)]) rfl dX2_put_17 ?_
  exact st_locals [(2, 14), (2, 8), (0, 0)] ⟨Or.inr rfl, Or.inr rfl, Or.inr rfl, trivial⟩ k1
theorem bk_X2_put_14_18 {d : Nat} {P : mmM → Prop} {mem : mmM} {x2 : Int}
  (k1 : x2 < (mem 14 1) → mmT bX2_put d 0 0 (mQv P) 18 [(2, 14), (2, 8), (0, (x2 + 1))] [] mS (mset mem 15 x2 (mem 9 x2)))
  (q1 : (mem 14 1) ≤ x2 → P mem)
  (s1 : R32 x2 := by intros; first | omega | assumption | solve_by_elim)
  (s2 : x2 < (mem 14 1) → 0 ≤ x2 ∧ x2 < 160 := by intros; first | omega | assumption | solve_by_elim)
  : mmT bX2_put d 0 0 (mQv P) 18 [(2, 14), (2, 8), (0, x2)] [] mS mem := by
  refine st_iload_n (i := 2) rfl rfl dX2_put_18 ?_
  refine st_aload_n (i := 0) rfl (t := 0) rfl (by decide) dX2_put_19 ?_
  refine so_getI (v := (mem 14 1)) 14 1 fr_X2_30_2 rfl sh_14 rfl dX2_put_20 (fun r1 => ?_)
  refine sr_icmp_ge 44 s1 r1 (by decide) dX2_put_23 (fun h1 => ?_) (fun h1 => ?_)
  · have h1 : (mem 14 1) ≤ x2 := by omega
    exact st_return rfl dX2_put_44 (mQv.ret (q1 h1))
  · have h1 : x2 < (mem 14 1) := by omega
    refine st_aload_n (i := 0) rfl (t := 0) rfl (by decide) dX2_put_26 ?_
    refine so_getA 14 0 fr_X2_11_2 rfl sh_14 fx_14_0 dX2_put_27 ?_
    refine st_iload_n (i := 2) rfl rfl dX2_put_30 ?_
    refine st_aload_n (i := 1) rfl (t := 0) rfl (by decide) dX2_put_31 ?_
    refine so_getA 8 1 fr_X2_31_3 rfl sh_8 fx_8_1 dX2_put_32 ?_
    refine st_iload_n (i := 2) rfl rfl dX2_put_35 ?_
    refine so_iald (v := (mem 9 x2)) 9 rfl sh_9 (by decide) (s2 h1) rfl dX2_put_36 (fun r2 => ?_)
    refine so_iast 15 fr_15 rfl sh_15 (by decide) (s2 h1) r2 dX2_put_37 ?_
    refine st_iinc (y := (x2 + 1)) (by decide) (i := 2) rfl rfl (lc' := [(2, 14), (2, 8), (0, (x2 + 1))]) rfl dX2_put_38 ?_
    refine st_goto 18 (by decide) dX2_put_41 ?_
    exact st_locals [(2, 14), (2, 8), (0, (x2 + 1))] ⟨Or.inr rfl, Or.inr rfl, Or.inr rfl, trivial⟩ (k1 h1)
theorem c_X2_put_14 (mem : mmM) (h : 0 ≤ mem 8 2 ∧ mem 8 2 ≤ 160) : conv bX2_put 1 [(2, 14), (2, 8)] mem (fun m => (∀ a, a ≠ 14 → a ≠ 15 → m a = mem a) ∧ (∀ j, j ≠ 1 → m 14 j = mem 14 j) ∧ m 14 1 = mem 8 2 ∧ ∀ i, 0 ≤ i → i < mem 8 2 → m 15 i = mem 9 i) := by
  refine cn_X2_put_14 (bk_X2_put_14_0 ?_)
  rw [show min (mem 8 2) 160 = mem 8 2 by omega]
  refine loop_up (n := mem 8 2) (fun i => ∀ m, (∀ a, a ≠ 14 → a ≠ 15 → m a = mem a) → (∀ j, j ≠ 1 → m 14 j = mem 14 j) → m 14 1 = mem 8 2 → (∀ k, 0 ≤ k → k < i → m 15 k = mem 9 k) → mmT bX2_put 1 0 0 (mQv (fun m => (∀ a, a ≠ 14 → a ≠ 15 → m a = mem a) ∧ (∀ j, j ≠ 1 → m 14 j = mem 14 j) ∧ m 14 1 = mem 8 2 ∧ ∀ i, 0 ≤ i → i < mem 8 2 → m 15 i = mem 9 i)) 18 [(2, 14), (2, 8), (0, i)] [] mS m) (fun i i0 i1 ih m f1 f2 f3 f4 => ?_) 0 (by omega) (by omega) _ (fun a a1 _ => mset_ne a1) (fun j hj => by rw [mset_at, if_neg hj]) (mset_same _ _ _ _) (fun k k0 k1 => by omega)
  have e9 : m 9 = mem 9 := f1 9 (by decide) (by decide)
  refine bk_X2_put_14_18 (fun g => ih (by omega) _ (fun a a1 a2 => ?_) (fun j hj => ?_) ?_ (fun k k0 k1 => ?_)) (fun g => ⟨f1, f2, f3, fun k k0 k1 => f4 k k0 (by omega)⟩) (s1 := ⟨by omega, by omega⟩) (s2 := fun _ => by omega)
  · rw [mset_ne a2]
    exact f1 a a1 a2
  · rw [mset_ne (by decide)]
    exact f2 j hj
  · rw [mset_ne (by decide)]
    exact f3
  · rw [mset_at, e9]
    split
    · rename_i q
      rw [q]
    · exact f4 k k0 (by omega)
theorem cn_X2_put_17 {d : Nat} {P : mmM → Prop} {mem : mmM} (h : mmT bX2_put d 0 0 (mQv P) 0 [(2, 17), (2, 8), (9, 0)] [] mS mem) : conv bX2_put d [(2, 17), (2, 8)] mem P := mmC_of [(2, 17), (2, 8), (9, 0)] ok_X2_put.2.2.2.2 rfl (Nat.le_of_ble_eq_true rfl) h
theorem bk_X2_put_17_0 {d : Nat} {P : mmM → Prop} {mem : mmM}
  (k1 : mmT bX2_put d 0 0 (mQv P) 18 [(2, 17), (2, 8), (0, 0)] [] mS (mset mem 17 1 (min (mem 8 2) 160)))
  (hd1 : 1 ≤ d := by omega)
  : mmT bX2_put d 0 0 (mQv P) 0 [(2, 17), (2, 8), (9, 0)] [] mS mem := by
  refine st_aload_n (i := 0) rfl (t := 0) rfl (by decide) dX2_put_0 ?_
  refine st_aload_n (i := 1) rfl (t := 0) rfl (by decide) dX2_put_1 ?_
  refine so_getI (v := (mem 8 2)) 8 2 fr_X2_18_3 rfl sh_8 rfl dX2_put_2 (fun r1 => ?_)
  refine st_aload_n (i := 0) rfl (t := 0) rfl (by decide) dX2_put_5 ?_
  refine so_getA 17 0 fr_X2_11_2 rfl sh_17 fx_17_0 dX2_put_6 ?_
  refine so_alen (v := 160) 18 rfl sh_18 (by decide) rfl dX2_put_9 ?_
  refine sr_mmin r1 ⟨by decide, by decide⟩ mr_X2_24 ms_mini mi_Math mc_mini hd1 (Nat.le_of_ble_eq_true rfl) dX2_put_10 ?_
  refine so_putI 17 1 fr_X2_30_2 pf_2_1 fo_17_1 rfl sh_17 (imin32_rng r1 ⟨by decide, by decide⟩) dX2_put_13 ?_
  refine st_iconst dX2_put_16 ?_
  refine st_istore_n (i := 2) rfl (by decide) (lc' := [(2, 17), (2, 8), (0, 0)]) rfl dX2_put_17 ?_
  exact st_locals [(2, 17), (2, 8), (0, 0)] ⟨Or.inr rfl, Or.inr rfl, Or.inr rfl, trivial⟩ k1
theorem bk_X2_put_17_18 {d : Nat} {P : mmM → Prop} {mem : mmM} {x2 : Int}
  (k1 : x2 < (mem 17 1) → mmT bX2_put d 0 0 (mQv P) 18 [(2, 17), (2, 8), (0, (x2 + 1))] [] mS (mset mem 18 x2 (mem 9 x2)))
  (q1 : (mem 17 1) ≤ x2 → P mem)
  (s1 : R32 x2 := by intros; first | omega | assumption | solve_by_elim)
  (s2 : x2 < (mem 17 1) → 0 ≤ x2 ∧ x2 < 160 := by intros; first | omega | assumption | solve_by_elim)
  : mmT bX2_put d 0 0 (mQv P) 18 [(2, 17), (2, 8), (0, x2)] [] mS mem := by
  refine st_iload_n (i := 2) rfl rfl dX2_put_18 ?_
  refine st_aload_n (i := 0) rfl (t := 0) rfl (by decide) dX2_put_19 ?_
  refine so_getI (v := (mem 17 1)) 17 1 fr_X2_30_2 rfl sh_17 rfl dX2_put_20 (fun r1 => ?_)
  refine sr_icmp_ge 44 s1 r1 (by decide) dX2_put_23 (fun h1 => ?_) (fun h1 => ?_)
  · have h1 : (mem 17 1) ≤ x2 := by omega
    exact st_return rfl dX2_put_44 (mQv.ret (q1 h1))
  · have h1 : x2 < (mem 17 1) := by omega
    refine st_aload_n (i := 0) rfl (t := 0) rfl (by decide) dX2_put_26 ?_
    refine so_getA 17 0 fr_X2_11_2 rfl sh_17 fx_17_0 dX2_put_27 ?_
    refine st_iload_n (i := 2) rfl rfl dX2_put_30 ?_
    refine st_aload_n (i := 1) rfl (t := 0) rfl (by decide) dX2_put_31 ?_
    refine so_getA 8 1 fr_X2_31_3 rfl sh_8 fx_8_1 dX2_put_32 ?_
    refine st_iload_n (i := 2) rfl rfl dX2_put_35 ?_
    refine so_iald (v := (mem 9 x2)) 9 rfl sh_9 (by decide) (s2 h1) rfl dX2_put_36 (fun r2 => ?_)
    refine so_iast 18 fr_18 rfl sh_18 (by decide) (s2 h1) r2 dX2_put_37 ?_
    refine st_iinc (y := (x2 + 1)) (by decide) (i := 2) rfl rfl (lc' := [(2, 17), (2, 8), (0, (x2 + 1))]) rfl dX2_put_38 ?_
    refine st_goto 18 (by decide) dX2_put_41 ?_
    exact st_locals [(2, 17), (2, 8), (0, (x2 + 1))] ⟨Or.inr rfl, Or.inr rfl, Or.inr rfl, trivial⟩ (k1 h1)
theorem c_X2_put_17 (mem : mmM) (h : 0 ≤ mem 8 2 ∧ mem 8 2 ≤ 160) : conv bX2_put 1 [(2, 17), (2, 8)] mem (fun m => (∀ a, a ≠ 17 → a ≠ 18 → m a = mem a) ∧ (∀ j, j ≠ 1 → m 17 j = mem 17 j) ∧ m 17 1 = mem 8 2 ∧ ∀ i, 0 ≤ i → i < mem 8 2 → m 18 i = mem 9 i) := by
  refine cn_X2_put_17 (bk_X2_put_17_0 ?_)
  rw [show min (mem 8 2) 160 = mem 8 2 by omega]
  refine loop_up (n := mem 8 2) (fun i => ∀ m, (∀ a, a ≠ 17 → a ≠ 18 → m a = mem a) → (∀ j, j ≠ 1 → m 17 j = mem 17 j) → m 17 1 = mem 8 2 → (∀ k, 0 ≤ k → k < i → m 18 k = mem 9 k) → mmT bX2_put 1 0 0 (mQv (fun m => (∀ a, a ≠ 17 → a ≠ 18 → m a = mem a) ∧ (∀ j, j ≠ 1 → m 17 j = mem 17 j) ∧ m 17 1 = mem 8 2 ∧ ∀ i, 0 ≤ i → i < mem 8 2 → m 18 i = mem 9 i)) 18 [(2, 17), (2, 8), (0, i)] [] mS m) (fun i i0 i1 ih m f1 f2 f3 f4 => ?_) 0 (by omega) (by omega) _ (fun a a1 _ => mset_ne a1) (fun j hj => by rw [mset_at, if_neg hj]) (mset_same _ _ _ _) (fun k k0 k1 => by omega)
  have e9 : m 9 = mem 9 := f1 9 (by decide) (by decide)
  refine bk_X2_put_17_18 (fun g => ih (by omega) _ (fun a a1 a2 => ?_) (fun j hj => ?_) ?_ (fun k k0 k1 => ?_)) (fun g => ⟨f1, f2, f3, fun k k0 k1 => f4 k k0 (by omega)⟩) (s1 := ⟨by omega, by omega⟩) (s2 := fun _ => by omega)
  · rw [mset_ne a2]
    exact f1 a a1 a2
  · rw [mset_ne (by decide)]
    exact f2 j hj
  · rw [mset_ne (by decide)]
    exact f3
  · rw [mset_at, e9]
    split
    · rename_i q
      rw [q]
    · exact f4 k k0 (by omega)
theorem cn_X2_put_20 {d : Nat} {P : mmM → Prop} {mem : mmM} (h : mmT bX2_put d 0 0 (mQv P) 0 [(2, 20), (2, 8), (9, 0)] [] mS mem) : conv bX2_put d [(2, 20), (2, 8)] mem P := mmC_of [(2, 20), (2, 8), (9, 0)] ok_X2_put.2.2.2.2 rfl (Nat.le_of_ble_eq_true rfl) h
theorem bk_X2_put_20_0 {d : Nat} {P : mmM → Prop} {mem : mmM}
  (k1 : mmT bX2_put d 0 0 (mQv P) 18 [(2, 20), (2, 8), (0, 0)] [] mS (mset mem 20 1 (min (mem 8 2) 160)))
  (hd1 : 1 ≤ d := by omega)
  : mmT bX2_put d 0 0 (mQv P) 0 [(2, 20), (2, 8), (9, 0)] [] mS mem := by
  refine st_aload_n (i := 0) rfl (t := 0) rfl (by decide) dX2_put_0 ?_
  refine st_aload_n (i := 1) rfl (t := 0) rfl (by decide) dX2_put_1 ?_
  refine so_getI (v := (mem 8 2)) 8 2 fr_X2_18_3 rfl sh_8 rfl dX2_put_2 (fun r1 => ?_)
  refine st_aload_n (i := 0) rfl (t := 0) rfl (by decide) dX2_put_5 ?_
  refine so_getA 20 0 fr_X2_11_2 rfl sh_20 fx_20_0 dX2_put_6 ?_
  refine so_alen (v := 160) 21 rfl sh_21 (by decide) rfl dX2_put_9 ?_
  refine sr_mmin r1 ⟨by decide, by decide⟩ mr_X2_24 ms_mini mi_Math mc_mini hd1 (Nat.le_of_ble_eq_true rfl) dX2_put_10 ?_
  refine so_putI 20 1 fr_X2_30_2 pf_2_1 fo_20_1 rfl sh_20 (imin32_rng r1 ⟨by decide, by decide⟩) dX2_put_13 ?_
  refine st_iconst dX2_put_16 ?_
  refine st_istore_n (i := 2) rfl (by decide) (lc' := [(2, 20), (2, 8), (0, 0)]) rfl dX2_put_17 ?_
  exact st_locals [(2, 20), (2, 8), (0, 0)] ⟨Or.inr rfl, Or.inr rfl, Or.inr rfl, trivial⟩ k1
theorem bk_X2_put_20_18 {d : Nat} {P : mmM → Prop} {mem : mmM} {x2 : Int}
  (k1 : x2 < (mem 20 1) → mmT bX2_put d 0 0 (mQv P) 18 [(2, 20), (2, 8), (0, (x2 + 1))] [] mS (mset mem 21 x2 (mem 9 x2)))
  (q1 : (mem 20 1) ≤ x2 → P mem)
  (s1 : R32 x2 := by intros; first | omega | assumption | solve_by_elim)
  (s2 : x2 < (mem 20 1) → 0 ≤ x2 ∧ x2 < 160 := by intros; first | omega | assumption | solve_by_elim)
  : mmT bX2_put d 0 0 (mQv P) 18 [(2, 20), (2, 8), (0, x2)] [] mS mem := by
  refine st_iload_n (i := 2) rfl rfl dX2_put_18 ?_
  refine st_aload_n (i := 0) rfl (t := 0) rfl (by decide) dX2_put_19 ?_
  refine so_getI (v := (mem 20 1)) 20 1 fr_X2_30_2 rfl sh_20 rfl dX2_put_20 (fun r1 => ?_)
  refine sr_icmp_ge 44 s1 r1 (by decide) dX2_put_23 (fun h1 => ?_) (fun h1 => ?_)
  · have h1 : (mem 20 1) ≤ x2 := by omega
    exact st_return rfl dX2_put_44 (mQv.ret (q1 h1))
  · have h1 : x2 < (mem 20 1) := by omega
    refine st_aload_n (i := 0) rfl (t := 0) rfl (by decide) dX2_put_26 ?_
    refine so_getA 20 0 fr_X2_11_2 rfl sh_20 fx_20_0 dX2_put_27 ?_
    refine st_iload_n (i := 2) rfl rfl dX2_put_30 ?_
    refine st_aload_n (i := 1) rfl (t := 0) rfl (by decide) dX2_put_31 ?_
    refine so_getA 8 1 fr_X2_31_3 rfl sh_8 fx_8_1 dX2_put_32 ?_
    refine st_iload_n (i := 2) rfl rfl dX2_put_35 ?_
    refine so_iald (v := (mem 9 x2)) 9 rfl sh_9 (by decide) (s2 h1) rfl dX2_put_36 (fun r2 => ?_)
    refine so_iast 21 fr_21 rfl sh_21 (by decide) (s2 h1) r2 dX2_put_37 ?_
    refine st_iinc (y := (x2 + 1)) (by decide) (i := 2) rfl rfl (lc' := [(2, 20), (2, 8), (0, (x2 + 1))]) rfl dX2_put_38 ?_
    refine st_goto 18 (by decide) dX2_put_41 ?_
    exact st_locals [(2, 20), (2, 8), (0, (x2 + 1))] ⟨Or.inr rfl, Or.inr rfl, Or.inr rfl, trivial⟩ (k1 h1)
theorem c_X2_put_20 (mem : mmM) (h : 0 ≤ mem 8 2 ∧ mem 8 2 ≤ 160) : conv bX2_put 1 [(2, 20), (2, 8)] mem (fun m => (∀ a, a ≠ 20 → a ≠ 21 → m a = mem a) ∧ (∀ j, j ≠ 1 → m 20 j = mem 20 j) ∧ m 20 1 = mem 8 2 ∧ ∀ i, 0 ≤ i → i < mem 8 2 → m 21 i = mem 9 i) := by
  refine cn_X2_put_20 (bk_X2_put_20_0 ?_)
  rw [show min (mem 8 2) 160 = mem 8 2 by omega]
  refine loop_up (n := mem 8 2) (fun i => ∀ m, (∀ a, a ≠ 20 → a ≠ 21 → m a = mem a) → (∀ j, j ≠ 1 → m 20 j = mem 20 j) → m 20 1 = mem 8 2 → (∀ k, 0 ≤ k → k < i → m 21 k = mem 9 k) → mmT bX2_put 1 0 0 (mQv (fun m => (∀ a, a ≠ 20 → a ≠ 21 → m a = mem a) ∧ (∀ j, j ≠ 1 → m 20 j = mem 20 j) ∧ m 20 1 = mem 8 2 ∧ ∀ i, 0 ≤ i → i < mem 8 2 → m 21 i = mem 9 i)) 18 [(2, 20), (2, 8), (0, i)] [] mS m) (fun i i0 i1 ih m f1 f2 f3 f4 => ?_) 0 (by omega) (by omega) _ (fun a a1 _ => mset_ne a1) (fun j hj => by rw [mset_at, if_neg hj]) (mset_same _ _ _ _) (fun k k0 k1 => by omega)
  have e9 : m 9 = mem 9 := f1 9 (by decide) (by decide)
  refine bk_X2_put_20_18 (fun g => ih (by omega) _ (fun a a1 a2 => ?_) (fun j hj => ?_) ?_ (fun k k0 k1 => ?_)) (fun g => ⟨f1, f2, f3, fun k k0 k1 => f4 k k0 (by omega)⟩) (s1 := ⟨by omega, by omega⟩) (s2 := fun _ => by omega)
  · rw [mset_ne a2]
    exact f1 a a1 a2
  · rw [mset_ne (by decide)]
    exact f2 j hj
  · rw [mset_ne (by decide)]
    exact f3
  · rw [mset_at, e9]
    split
    · rename_i q
      rw [q]
    · exact f4 k k0 (by omega)
