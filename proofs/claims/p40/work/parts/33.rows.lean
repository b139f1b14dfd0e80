/-! rows of losses: how many come to the end from each speech -/
def rwS (n : Int) (to : Int → Int) : Nat → Nat → Int
  | 0, _ => 1
  | j + 1, t => sumTo (fun u => if 0 ≤ to (n - 1 - u) ∧ to (n - 1 - u) < n then rwS n to j (n - (to (n - 1 - u) + 1)).toNat else 0) t
def rwR (n : Int) (to : Int → Int) (j : Nat) (s : Int) : Int := rwS n to j (n - s).toNat
theorem rwR_end (n : Int) (to : Int → Int) (j : Nat) : rwR n to j n = if j = 0 then 1 else 0 := by
  unfold rwR
  rw [show (n - n).toNat = 0 by omega]
  cases j with
  | zero => rfl
  | succ j =>
    rw [if_neg (by omega)]
    rfl
theorem rwR_0 (n : Int) (to : Int → Int) (s : Int) : rwR n to 0 s = 1 := rfl
theorem rwR_step (n : Int) (to : Int → Int) (j : Nat) {s : Int} (h : s < n) : rwR n to (j + 1) s = rwR n to (j + 1) (s + 1) + (if 0 ≤ to s ∧ to s < n then rwR n to j (to s + 1) else 0) := by
  unfold rwR
  rw [show (n - s).toNat = (n - (s + 1)).toNat + 1 by omega]
  show rwS n to (j + 1) (n - (s + 1)).toNat + (if 0 ≤ to (n - 1 - ((n - (s + 1)).toNat : Int)) ∧ to (n - 1 - ((n - (s + 1)).toNat : Int)) < n then rwS n to j (n - (to (n - 1 - ((n - (s + 1)).toNat : Int)) + 1)).toNat else 0) = _
  rw [show n - 1 - ((n - (s + 1)).toNat : Int) = s by omega]
def p24 (j : Nat) : Int := ((24 ^ j : Nat) : Int)
theorem p24_pos (j : Nat) : 0 < p24 j := by
  unfold p24
  have : 0 < 24 ^ j := Nat.pow_pos (by decide)
  omega
theorem p24_succ (j : Nat) : p24 (j + 1) = p24 j * 24 := by
  unfold p24
  rw [Nat.pow_succ]
  omega
theorem p24_6 {j : Nat} (h : j ≤ 6) : p24 j ≤ 191102976 := by
  unfold p24
  have : 24 ^ j ≤ 24 ^ 6 := Nat.pow_le_pow_right (by decide) h
  have e : 24 ^ 6 = 191102976 := rfl
  omega
theorem rwS_bnd {n : Int} {to : Int → Int} (hn : n ≤ 24) (j : Nat) : ∀ t : Nat, t ≤ 24 → 0 ≤ rwS n to j t ∧ rwS n to j t ≤ p24 j := by
  induction j with
  | zero => intro t _; exact ⟨by show (0 : Int) ≤ 1; omega, by show (1 : Int) ≤ 1; omega⟩
  | succ j ih =>
    intro t ht
    have pp := p24_pos j
    have := sumTo_bnd (f := fun u => if 0 ≤ to (n - 1 - u) ∧ to (n - 1 - u) < n then rwS n to j (n - (to (n - 1 - u) + 1)).toNat else 0) (n := t) (b := p24 j) (fun i i0 i1 => by
      show 0 ≤ (if 0 ≤ to (n - 1 - i) ∧ to (n - 1 - i) < n then rwS n to j (n - (to (n - 1 - i) + 1)).toNat else 0) ∧ (if 0 ≤ to (n - 1 - i) ∧ to (n - 1 - i) < n then rwS n to j (n - (to (n - 1 - i) + 1)).toNat else 0) ≤ p24 j
      split
      · exact ih _ (by omega)
      · omega)
    refine ⟨this.1, Int.le_trans this.2 ?_⟩
    rw [p24_succ]
    exact Int.mul_le_mul_of_nonneg_left (by omega) (by omega)
theorem rwR_bnd {n : Int} {to : Int → Int} (hn : n ≤ 24) (j : Nat) {s : Int} (h0 : 0 ≤ s) : 0 ≤ rwR n to j s ∧ rwR n to j s ≤ p24 j := rwS_bnd hn j _ (by omega)
theorem rwS_congr {n : Int} {to to' : Int → Int} (h : ∀ i, 0 ≤ i → i < n → to i = to' i) (j : Nat) : ∀ t : Nat, (t : Int) ≤ n → (∀ i, 0 ≤ i → i < n → -1 ≤ to i) → rwS n to j t = rwS n to' j t := by
  induction j with
  | zero => intro t _ _; rfl
  | succ j ih =>
    intro t ht hb
    refine sumTo_congr (fun i i0 i1 => ?_)
    have e := h (n - 1 - i) (by omega) (by omega)
    rw [← e]
    split
    · exact ih _ (by omega) hb
    · rfl
def rwFr (mem m : mmM) : Prop := ∀ a, (a < 40 ∨ 46 < a) → m a = mem a
def rwOK (mem : mmM) (i : Nat) (m : mmM) : Prop := rwFr mem m ∧ ∀ j, j < i → ∀ s, 0 ≤ s → s ≤ mem 23 1 → m (40 + j) s = rwR (mem 23 1) (mem 38) j s
def rwQ (mem : mmM) (x1 : Int) : Int → mmM → Prop := fun v m => v = min 1000000000 (rwR (mem 23 1) (mem 38) x1.toNat 0) ∧ rwFr mem m
theorem cn_X4_rowsWith_0 {d : Nat} {P : Int → mmM → Prop} {mem : mmM} {x1 : Int} (h : mmT bX4_rowsWith d 0 0 (mQ 0 P) 0 [(2, 35), (0, x1), (9, 0), (9, 0), (9, 0)] [] mS mem) : con 0 bX4_rowsWith d [(2, 35), (0, x1)] mem P := mmC_of [(2, 35), (0, x1), (9, 0), (9, 0), (9, 0)] ok_X4_rowsWith.2.2.2.2 rfl (Nat.le_of_ble_eq_true rfl) h
theorem bk_X4_rowsWith_0_0 {d : Nat} {P : Int → mmM → Prop} {mem : mmM} {x1 : Int}
  (k1 : mmT bX4_rowsWith d 0 0 (mQ 0 P) 2 [(2, 35), (0, x1), (0, 0), (9, 0), (9, 0)] [] mS mem)
  : mmT bX4_rowsWith d 0 0 (mQ 0 P) 0 [(2, 35), (0, x1), (9, 0), (9, 0), (9, 0)] [] mS mem := by
  refine st_iconst dX4_rowsWith_0 ?_
  refine st_istore_n (i := 2) rfl (by decide) (lc' := [(2, 35), (0, x1), (0, 0), (9, 0), (9, 0)]) rfl dX4_rowsWith_1 ?_
  exact st_locals [(2, 35), (0, x1), (0, 0), (9, 0), (9, 0)] ⟨Or.inr rfl, Or.inr rfl, Or.inr rfl, Or.inl rfl, Or.inl rfl, trivial⟩ k1
theorem bk_X4_rowsWith_0_2 {d : Nat} {P : Int → mmM → Prop} {mem : mmM} {x1 x2 : Int}
  (k1 : x1 < x2 → mmT bX4_rowsWith d 0 0 (mQ 0 P) 137 [(2, 35), (0, x1), (9, 0), (9, 0), (9, 0)] [] mS mem)
  (k2 : x2 ≤ x1 → 7 ≤ x2 → mmT bX4_rowsWith d 0 0 (mQ 0 P) 137 [(2, 35), (0, x1), (9, 0), (9, 0), (9, 0)] [] mS mem)
  (k3 : x2 ≤ x1 → x2 < 7 → mmT bX4_rowsWith d 0 0 (mQ 0 P) 16 [(2, 35), (0, x1), (0, x2), (9, 0), (9, 0)] [] mS mem)
  (s1 : R32 x2 := by intros; first | omega | assumption | solve_by_elim)
  (s2 : R32 x1 := by intros; first | omega | assumption | solve_by_elim)
  : mmT bX4_rowsWith d 0 0 (mQ 0 P) 2 [(2, 35), (0, x1), (0, x2), (9, 0), (9, 0)] [] mS mem := by
  refine st_iload_n (i := 2) rfl rfl dX4_rowsWith_2 ?_
  refine st_iload_n (i := 1) rfl rfl dX4_rowsWith_3 ?_
  refine sr_icmp_gt 137 s1 s2 (by decide) dX4_rowsWith_4 (fun h1 => ?_) (fun h1 => ?_)
  · have h1 : x1 < x2 := by omega
    exact st_locals [(2, 35), (0, x1), (9, 0), (9, 0), (9, 0)] ⟨Or.inr rfl, Or.inr rfl, Or.inl rfl, Or.inl rfl, Or.inl rfl, trivial⟩ (k1 h1)
  · have h1 : x2 ≤ x1 := by omega
    refine st_iload_n (i := 2) rfl rfl dX4_rowsWith_7 ?_
    refine st_aload_n (i := 0) rfl (t := 0) rfl (by decide) dX4_rowsWith_8 ?_
    refine so_getA 35 4 fr_X4_23_4 rfl sh_35 fx_35_4 dX4_rowsWith_9 ?_
    refine so_alen (v := 7) 39 rfl sh_39 (by decide) rfl dX4_rowsWith_12 ?_
    refine sr_icmp_ge 137 s1 ⟨by decide, by decide⟩ (by decide) dX4_rowsWith_13 (fun h2 => ?_) (fun h2 => ?_)
    · have h2 : 7 ≤ x2 := by omega
      exact st_locals [(2, 35), (0, x1), (9, 0), (9, 0), (9, 0)] ⟨Or.inr rfl, Or.inr rfl, Or.inl rfl, Or.inl rfl, Or.inl rfl, trivial⟩ (k2 h1 h2)
    · have h2 : x2 < 7 := by omega
      exact st_locals [(2, 35), (0, x1), (0, x2), (9, 0), (9, 0)] ⟨Or.inr rfl, Or.inr rfl, Or.inr rfl, Or.inl rfl, Or.inl rfl, trivial⟩ (k3 h1 h2)
theorem bk_X4_rowsWith_0_16 {d : Nat} {P : Int → mmM → Prop} {mem : mmM} {x1 x2 : Int}
  (oi_0 : x2 = 0)
  (k1 : ¬ x2 = 0 → mmT bX4_rowsWith d 0 0 (mQ 0 P) 49 [(2, 35), (0, x1), (0, x2), (0, ((mem 23 1) - 1)), (9, 0)] [] mS (mset mem 40 (mem 23 1) 0))
  (k2 : x2 = 0 → mmT bX4_rowsWith d 0 0 (mQ 0 P) 49 [(2, 35), (0, x1), (0, x2), (0, ((mem 23 1) - 1)), (9, 0)] [] mS (mset mem 40 (mem 23 1) 1))
  (s1 : R32 x2 := by intros; first | omega | assumption | solve_by_elim)
  (s2 : ¬ x2 = 0 → 0 ≤ (mem 23 1) ∧ (mem 23 1) < 25 := by intros; first | omega | assumption | solve_by_elim)
  (s3 : x2 = 0 → 0 ≤ (mem 23 1) ∧ (mem 23 1) < 25 := by intros; first | omega | assumption | solve_by_elim)
  : mmT bX4_rowsWith d 0 0 (mQ 0 P) 16 [(2, 35), (0, x1), (0, x2), (9, 0), (9, 0)] [] mS mem := by
  refine st_aload_n (i := 0) rfl (t := 0) rfl (by decide) dX4_rowsWith_16 ?_
  refine so_getA 35 4 fr_X4_23_4 rfl sh_35 fx_35_4 dX4_rowsWith_17 ?_
  refine st_iload_n (i := 2) rfl rfl dX4_rowsWith_20 ?_
  refine so_aald (v := 40) 39 (by decide) rfl sh_39 (by decide) (by omega) (fun hfx => by rw [oi_0]; exact hfx _ fx_39_0) dX4_rowsWith_21 ?_
  refine st_aload_n (i := 0) rfl (t := 0) rfl (by decide) dX4_rowsWith_22 ?_
  refine so_getA 35 0 fr_X4_26_4 rfl sh_35 fx_35_0 dX4_rowsWith_23 ?_
  refine so_getI (v := (mem 23 1)) 23 1 fr_X4_36_8 rfl sh_23 rfl dX4_rowsWith_26 (fun r1 => ?_)
  refine st_iload_n (i := 2) rfl rfl dX4_rowsWith_29 ?_
  refine sr_if_ne 37 s1 (by decide) dX4_rowsWith_30 (fun h1 => ?_) (fun h1 => ?_)
  · have h1 : ¬ x2 = 0 := by omega
    refine st_lconst (v := 0) rfl dX4_rowsWith_37 ?_
    refine so_last 40 fr_40 rfl sh_40 (by decide) (s2 h1) ⟨by decide, by decide⟩ dX4_rowsWith_38 ?_
    refine st_aload_n (i := 0) rfl (t := 0) rfl (by decide) dX4_rowsWith_39 ?_
    refine so_getA 35 0 fr_X4_26_4 rfl sh_35 fx_35_0 dX4_rowsWith_40 ?_
    refine so_getI (v := (mem 23 1)) 23 1 fr_X4_36_8 rfl sh_23 rfl dX4_rowsWith_43 (fun r2 => ?_)
    refine st_iconst dX4_rowsWith_46 ?_
    refine st_isub dX4_rowsWith_47 ?_
    refine st_istore_n (i := 3) rfl (by decide) (lc' := [(2, 35), (0, x1), (0, x2), (0, ((mem 23 1) - 1)), (9, 0)]) rfl dX4_rowsWith_48 ?_
    exact st_locals [(2, 35), (0, x1), (0, x2), (0, ((mem 23 1) - 1)), (9, 0)] ⟨Or.inr rfl, Or.inr rfl, Or.inr rfl, Or.inr rfl, Or.inl rfl, trivial⟩ (k1 h1)
  · have h1 : x2 = 0 := by omega
    refine st_lconst (v := 1) rfl dX4_rowsWith_33 ?_
    refine st_goto 38 (by decide) dX4_rowsWith_34 ?_
    refine so_last 40 fr_40 rfl sh_40 (by decide) (s3 h1) ⟨by decide, by decide⟩ dX4_rowsWith_38 ?_
    refine st_aload_n (i := 0) rfl (t := 0) rfl (by decide) dX4_rowsWith_39 ?_
    refine so_getA 35 0 fr_X4_26_4 rfl sh_35 fx_35_0 dX4_rowsWith_40 ?_
    refine so_getI (v := (mem 23 1)) 23 1 fr_X4_36_8 rfl sh_23 rfl dX4_rowsWith_43 (fun r3 => ?_)
    refine st_iconst dX4_rowsWith_46 ?_
    refine st_isub dX4_rowsWith_47 ?_
    refine st_istore_n (i := 3) rfl (by decide) (lc' := [(2, 35), (0, x1), (0, x2), (0, ((mem 23 1) - 1)), (9, 0)]) rfl dX4_rowsWith_48 ?_
    exact st_locals [(2, 35), (0, x1), (0, x2), (0, ((mem 23 1) - 1)), (9, 0)] ⟨Or.inr rfl, Or.inr rfl, Or.inr rfl, Or.inr rfl, Or.inl rfl, trivial⟩ (k2 h1)
theorem bk_X4_rowsWith_0_49 {d : Nat} {P : Int → mmM → Prop} {mem : mmM} {x1 x2 x3 : Int}
  (oi_0 : x2 = 0)
  (oi_1 : (x2 - 1) = -1)
  (k1 : x3 < 0 → mmT bX4_rowsWith d 0 0 (mQ 0 P) 2 [(2, 35), (0, x1), (0, (x2 + 1)), (9, 0), (9, 0)] [] mS mem)
  (k2 : 0 ≤ x3 → x2 ≤ 0 → mmT bX4_rowsWith d 0 0 (mQ 0 P) 49 [(2, 35), (0, x1), (0, x2), (0, (x3 + (-1))), (9, 0)] [] mS (mset mem 40 x3 ((mem 40 (x3 + 1)) + 0)))
  (k3 : 0 ≤ x3 → 0 < x2 → ¬ (0 ≤ (mem 38 x3) ∧ (mem 38 x3) < (mem 23 1)) → mmT bX4_rowsWith d 0 0 (mQ 0 P) 49 [(2, 35), (0, x1), (0, x2), (0, (x3 + (-1))), (9, 0)] [] mS (mset mem 40 x3 ((mem 40 (x3 + 1)) + 0)))
  (hd2 : 2 ≤ d := by omega)
  (s1 : R32 x3 := by intros; first | omega | assumption | solve_by_elim)
  (s2 : 0 ≤ x3 → R32 x2 := by intros; first | omega | assumption | solve_by_elim)
  (s3 : 0 ≤ x3 → x2 ≤ 0 → 0 ≤ (x3 + 1) ∧ (x3 + 1) < 25 := by intros; first | omega | assumption | solve_by_elim)
  (s4 : 0 ≤ x3 → x2 ≤ 0 → 0 ≤ x3 ∧ x3 < 25 := by intros; first | omega | assumption | solve_by_elim)
  (s5 : 0 ≤ x3 → x2 ≤ 0 → R64 ((mem 40 (x3 + 1)) + 0) := by intros; first | omega | assumption | solve_by_elim)
  (s6 : 0 ≤ x3 → 0 < x2 → 0 ≤ x3 ∧ x3 < 24 := by intros; first | omega | assumption | solve_by_elim)
  (s7 : 0 ≤ x3 → 0 < x2 → ¬ (0 ≤ (mem 38 x3) ∧ (mem 38 x3) < (mem 23 1)) → 0 ≤ (x3 + 1) ∧ (x3 + 1) < 25 := by intros; first | omega | assumption | solve_by_elim)
  (s8 : 0 ≤ x3 → 0 < x2 → ¬ (0 ≤ (mem 38 x3) ∧ (mem 38 x3) < (mem 23 1)) → 0 ≤ x3 ∧ x3 < 25 := by intros; first | omega | assumption | solve_by_elim)
  (s9 : 0 ≤ x3 → 0 < x2 → ¬ (0 ≤ (mem 38 x3) ∧ (mem 38 x3) < (mem 23 1)) → R64 ((mem 40 (x3 + 1)) + 0) := by intros; first | omega | assumption | solve_by_elim)
  (s10 : 0 ≤ x3 → 0 < x2 → (0 ≤ (mem 38 x3) ∧ (mem 38 x3) < (mem 23 1)) → 0 ≤ (x3 + 1) ∧ (x3 + 1) < 25 := by intros; first | omega | assumption | solve_by_elim)
  : mmT bX4_rowsWith d 0 0 (mQ 0 P) 49 [(2, 35), (0, x1), (0, x2), (0, x3), (9, 0)] [] mS mem := by
  refine st_iload_n (i := 3) rfl rfl dX4_rowsWith_49 ?_
  refine sr_if_lt 131 s1 (by decide) dX4_rowsWith_50 (fun h1 => ?_) (fun h1 => ?_)
  · have h1 : x3 < 0 := by omega
    refine st_iinc (y := (x2 + 1)) (by decide) (i := 2) rfl rfl (lc' := [(2, 35), (0, x1), (0, (x2 + 1)), (0, x3), (9, 0)]) rfl dX4_rowsWith_131 ?_
    refine st_goto 2 (by decide) dX4_rowsWith_134 ?_
    exact st_locals [(2, 35), (0, x1), (0, (x2 + 1)), (9, 0), (9, 0)] ⟨Or.inr rfl, Or.inr rfl, Or.inr rfl, Or.inl rfl, Or.inl rfl, trivial⟩ (k1 h1)
  · have h1 : 0 ≤ x3 := by omega
    refine st_iload_n (i := 2) rfl rfl dX4_rowsWith_53 ?_
    refine sr_if_le 77 (s2 h1) (by decide) dX4_rowsWith_54 (fun h2 => ?_) (fun h2 => ?_)
    · have h2 : x2 ≤ 0 := by omega
      refine st_iconst dX4_rowsWith_77 ?_
      refine st_istore (by decide) (lc' := [(2, 35), (0, x1), (0, x2), (0, x3), (0, 0)]) rfl dX4_rowsWith_78 ?_
      refine st_aload_n (i := 0) rfl (t := 0) rfl (by decide) dX4_rowsWith_80 ?_
      refine so_getA 35 4 fr_X4_23_4 rfl sh_35 fx_35_4 dX4_rowsWith_81 ?_
      refine st_iload_n (i := 2) rfl rfl dX4_rowsWith_84 ?_
      refine so_aald (v := 40) 39 (by decide) rfl sh_39 (by decide) (by omega) (fun hfx => by rw [oi_0]; exact hfx _ fx_39_0) dX4_rowsWith_85 ?_
      refine st_iload_n (i := 3) rfl rfl dX4_rowsWith_86 ?_
      refine st_aload_n (i := 0) rfl (t := 0) rfl (by decide) dX4_rowsWith_87 ?_
      refine so_getA 35 4 fr_X4_23_4 rfl sh_35 fx_35_4 dX4_rowsWith_88 ?_
      refine st_iload_n (i := 2) rfl rfl dX4_rowsWith_91 ?_
      refine so_aald (v := 40) 39 (by decide) rfl sh_39 (by decide) (by omega) (fun hfx => by rw [oi_0]; exact hfx _ fx_39_0) dX4_rowsWith_92 ?_
      refine st_iload_n (i := 3) rfl rfl dX4_rowsWith_93 ?_
      refine st_iconst dX4_rowsWith_94 ?_
      refine st_iadd dX4_rowsWith_95 ?_
      refine so_lald (v := (mem 40 (x3 + 1))) 40 rfl sh_40 (by decide) (s3 h1 h2) rfl dX4_rowsWith_96 (fun r1 => ?_)
      refine st_iload rfl dX4_rowsWith_97 ?_
      refine sr_if_eq 122 ⟨by decide, by decide⟩ (by decide) dX4_rowsWith_99 (fun h => ?_) (fun h => ?_)
      rotate_left
      · exact absurd h (by decide)
      refine st_lconst (v := 0) rfl dX4_rowsWith_122 ?_
      refine st_ladd dX4_rowsWith_123 ?_
      refine so_last 40 fr_40 rfl sh_40 (by decide) (s4 h1 h2) (s5 h1 h2) dX4_rowsWith_124 ?_
      refine st_iinc (y := (x3 + (-1))) (by decide) (i := 3) rfl rfl (lc' := [(2, 35), (0, x1), (0, x2), (0, (x3 + (-1))), (0, 0)]) rfl dX4_rowsWith_125 ?_
      refine st_goto 49 (by decide) dX4_rowsWith_128 ?_
      exact st_locals [(2, 35), (0, x1), (0, x2), (0, (x3 + (-1))), (9, 0)] ⟨Or.inr rfl, Or.inr rfl, Or.inr rfl, Or.inr rfl, Or.inl rfl, trivial⟩ (k2 h1 h2)
    · have h2 : 0 < x2 := by omega
      refine st_aload_n (i := 0) rfl (t := 0) rfl (by decide) dX4_rowsWith_57 ?_
      refine so_getA 35 0 fr_X4_26_4 rfl sh_35 fx_35_0 dX4_rowsWith_58 ?_
      refine st_aload_n (i := 0) rfl (t := 0) rfl (by decide) dX4_rowsWith_61 ?_
      refine so_getA 35 3 fr_X4_18_4 rfl sh_35 fx_35_3 dX4_rowsWith_62 ?_
      refine st_iload_n (i := 3) rfl rfl dX4_rowsWith_65 ?_
      refine so_iald (v := (mem 38 x3)) 38 rfl sh_38 (by decide) (s6 h1 h2) rfl dX4_rowsWith_66 (fun r2 => ?_)
      refine st_callV (kc2 := 0) (ks2 := 0) (av := [(0, (mem 38 x3))]) 23 8 mr_X4_61 ok_X8_has (c_X8_has mem (mem 38 x3) (r2)) rfl sh_23 ⟨_, rfl, rfl, by decide⟩ rfl rfl hd2 (Nat.le_refl 0) (Nat.le_refl 0) (Nat.le_of_ble_eq_true rfl) dX4_rowsWith_67 (mQ.elim fun v1 m1 hp => ?_)
      obtain ⟨hpv, hpm⟩ := hp
      subst hpv
      have hpm := hpm.symm
      subst hpm
      refine so_ifeqB 77 (by decide) dX4_rowsWith_70 (fun h3 => ?_) (fun h3 => ?_)
      · have h3 : ¬ (0 ≤ (mem 38 x3) ∧ (mem 38 x3) < (mem 23 1)) := h3
        refine st_iconst dX4_rowsWith_77 ?_
        refine st_istore (by decide) (lc' := [(2, 35), (0, x1), (0, x2), (0, x3), (0, 0)]) rfl dX4_rowsWith_78 ?_
        refine st_aload_n (i := 0) rfl (t := 0) rfl (by decide) dX4_rowsWith_80 ?_
        refine so_getA 35 4 fr_X4_23_4 rfl sh_35 fx_35_4 dX4_rowsWith_81 ?_
        refine st_iload_n (i := 2) rfl rfl dX4_rowsWith_84 ?_
        refine so_aald (v := 40) 39 (by decide) rfl sh_39 (by decide) (by omega) (fun hfx => by rw [oi_0]; exact hfx _ fx_39_0) dX4_rowsWith_85 ?_
        refine st_iload_n (i := 3) rfl rfl dX4_rowsWith_86 ?_
        refine st_aload_n (i := 0) rfl (t := 0) rfl (by decide) dX4_rowsWith_87 ?_
        refine so_getA 35 4 fr_X4_23_4 rfl sh_35 fx_35_4 dX4_rowsWith_88 ?_
        refine st_iload_n (i := 2) rfl rfl dX4_rowsWith_91 ?_
        refine so_aald (v := 40) 39 (by decide) rfl sh_39 (by decide) (by omega) (fun hfx => by rw [oi_0]; exact hfx _ fx_39_0) dX4_rowsWith_92 ?_
        refine st_iload_n (i := 3) rfl rfl dX4_rowsWith_93 ?_
        refine st_iconst dX4_rowsWith_94 ?_
        refine st_iadd dX4_rowsWith_95 ?_
        refine so_lald (v := (mem 40 (x3 + 1))) 40 rfl sh_40 (by decide) (s7 h1 h2 h3) rfl dX4_rowsWith_96 (fun r3 => ?_)
        refine st_iload rfl dX4_rowsWith_97 ?_
        refine sr_if_eq 122 ⟨by decide, by decide⟩ (by decide) dX4_rowsWith_99 (fun h => ?_) (fun h => ?_)
        rotate_left
        · exact absurd h (by decide)
        refine st_lconst (v := 0) rfl dX4_rowsWith_122 ?_
        refine st_ladd dX4_rowsWith_123 ?_
        refine so_last 40 fr_40 rfl sh_40 (by decide) (s8 h1 h2 h3) (s9 h1 h2 h3) dX4_rowsWith_124 ?_
        refine st_iinc (y := (x3 + (-1))) (by decide) (i := 3) rfl rfl (lc' := [(2, 35), (0, x1), (0, x2), (0, (x3 + (-1))), (0, 0)]) rfl dX4_rowsWith_125 ?_
        refine st_goto 49 (by decide) dX4_rowsWith_128 ?_
        exact st_locals [(2, 35), (0, x1), (0, x2), (0, (x3 + (-1))), (9, 0)] ⟨Or.inr rfl, Or.inr rfl, Or.inr rfl, Or.inr rfl, Or.inl rfl, trivial⟩ (k3 h1 h2 h3)
      · have h3 : (0 ≤ (mem 38 x3) ∧ (mem 38 x3) < (mem 23 1)) := h3
        refine st_iconst dX4_rowsWith_73 ?_
        refine st_goto 78 (by decide) dX4_rowsWith_74 ?_
        refine st_istore (by decide) (lc' := [(2, 35), (0, x1), (0, x2), (0, x3), (0, 1)]) rfl dX4_rowsWith_78 ?_
        refine st_aload_n (i := 0) rfl (t := 0) rfl (by decide) dX4_rowsWith_80 ?_
        refine so_getA 35 4 fr_X4_23_4 rfl sh_35 fx_35_4 dX4_rowsWith_81 ?_
        refine st_iload_n (i := 2) rfl rfl dX4_rowsWith_84 ?_
        refine so_aald (v := 40) 39 (by decide) rfl sh_39 (by decide) (by omega) (fun hfx => by rw [oi_0]; exact hfx _ fx_39_0) dX4_rowsWith_85 ?_
        refine st_iload_n (i := 3) rfl rfl dX4_rowsWith_86 ?_
        refine st_aload_n (i := 0) rfl (t := 0) rfl (by decide) dX4_rowsWith_87 ?_
        refine so_getA 35 4 fr_X4_23_4 rfl sh_35 fx_35_4 dX4_rowsWith_88 ?_
        refine st_iload_n (i := 2) rfl rfl dX4_rowsWith_91 ?_
        refine so_aald (v := 40) 39 (by decide) rfl sh_39 (by decide) (by omega) (fun hfx => by rw [oi_0]; exact hfx _ fx_39_0) dX4_rowsWith_92 ?_
        refine st_iload_n (i := 3) rfl rfl dX4_rowsWith_93 ?_
        refine st_iconst dX4_rowsWith_94 ?_
        refine st_iadd dX4_rowsWith_95 ?_
        refine so_lald (v := (mem 40 (x3 + 1))) 40 rfl sh_40 (by decide) (s10 h1 h2 h3) rfl dX4_rowsWith_96 (fun r4 => ?_)
        refine st_iload rfl dX4_rowsWith_97 ?_
        refine sr_if_eq 122 ⟨by decide, by decide⟩ (by decide) dX4_rowsWith_99 (fun h => ?_) (fun h => ?_)
        · exact absurd h (by decide)
        refine st_aload_n (i := 0) rfl (t := 0) rfl (by decide) dX4_rowsWith_102 ?_
        refine so_getA 35 4 fr_X4_23_4 rfl sh_35 fx_35_4 dX4_rowsWith_103 ?_
        refine st_iload_n (i := 2) rfl rfl dX4_rowsWith_106 ?_
        refine st_iconst dX4_rowsWith_107 ?_
        refine st_isub dX4_rowsWith_108 ?_
        exact absurd oi_1 (by omega)
theorem bk_X4_rowsWith_0_137 {d : Nat} {P : Int → mmM → Prop} {mem : mmM} {x1 : Int}
  (oi_0 : x1 = 0)
  (q1 : x1 < 0 → P (-1) mem)
  (q2 : 0 ≤ x1 → 7 ≤ x1 → P (-1) mem)
  (q3 : 0 ≤ x1 → x1 < 7 → P (min 1000000000 (mem 40 0)) mem)
  (hd1 : 1 ≤ d := by omega)
  (s1 : R32 x1 := by intros; first | omega | assumption | solve_by_elim)
  : mmT bX4_rowsWith d 0 0 (mQ 0 P) 137 [(2, 35), (0, x1), (9, 0), (9, 0), (9, 0)] [] mS mem := by
  refine st_iload_n (i := 1) rfl rfl dX4_rowsWith_137 ?_
  refine sr_if_lt 168 s1 (by decide) dX4_rowsWith_138 (fun h1 => ?_) (fun h1 => ?_)
  · have h1 : x1 < 0 := by omega
    refine st_iconst dX4_rowsWith_168 ?_
    exact st_ireturn rfl dX4_rowsWith_169 (mQ.ret (q1 h1))
  · have h1 : 0 ≤ x1 := by omega
    refine st_iload_n (i := 1) rfl rfl dX4_rowsWith_141 ?_
    refine st_aload_n (i := 0) rfl (t := 0) rfl (by decide) dX4_rowsWith_142 ?_
    refine so_getA 35 4 fr_X4_23_4 rfl sh_35 fx_35_4 dX4_rowsWith_143 ?_
    refine so_alen (v := 7) 39 rfl sh_39 (by decide) rfl dX4_rowsWith_146 ?_
    refine sr_icmp_ge 168 s1 ⟨by decide, by decide⟩ (by decide) dX4_rowsWith_147 (fun h2 => ?_) (fun h2 => ?_)
    · have h2 : 7 ≤ x1 := by omega
      refine st_iconst dX4_rowsWith_168 ?_
      exact st_ireturn rfl dX4_rowsWith_169 (mQ.ret (q2 h1 h2))
    · have h2 : x1 < 7 := by omega
      refine st_ldc2 cw_X4_65 dX4_rowsWith_150 ?_
      refine st_aload_n (i := 0) rfl (t := 0) rfl (by decide) dX4_rowsWith_153 ?_
      refine so_getA 35 4 fr_X4_23_4 rfl sh_35 fx_35_4 dX4_rowsWith_154 ?_
      refine st_iload_n (i := 1) rfl rfl dX4_rowsWith_157 ?_
      refine so_aald (v := 40) 39 (by decide) rfl sh_39 (by decide) (by omega) (fun hfx => by rw [oi_0]; exact hfx _ fx_39_0) dX4_rowsWith_158 ?_
      refine st_iconst dX4_rowsWith_159 ?_
      refine so_lald (v := (mem 40 0)) 40 rfl sh_40 (by decide) ⟨by decide, by decide⟩ rfl dX4_rowsWith_160 (fun r1 => ?_)
      refine sr_mminl ⟨by decide, by decide⟩ r1 mr_X4_67 ms_minj mi_Math mc_minj hd1 (Nat.le_of_ble_eq_true rfl) dX4_rowsWith_161 ?_
      refine st_l2i dX4_rowsWith_164 ?_
      refine st_goto 169 (by decide) dX4_rowsWith_165 ?_
      exact st_ireturn rfl dX4_rowsWith_169 (mQ.ret (q3 h1 h2))
theorem rX_ex_0 (mem m : mmM) (x1 : Int) (hx : x1 = 0) (h : rwOK mem 1 m) (hn : 0 ≤ mem 23 1) : mmT bX4_rowsWith 3 0 0 (mQ 0 (rwQ mem x1)) 137 [(2, 35), (0, x1), (9, 0), (9, 0), (9, 0)] [] mS m := by
  refine bk_X4_rowsWith_0_137 hx (fun g => by omega) (fun g g2 => by omega) (fun g g2 => ⟨?_, h.1⟩)
  have := h.2 0 (by decide) 0 (by omega) hn
  rw [hx]
  exact congrArg (min 1000000000) this
theorem rX_in_0 (mem m : mmM) (x1 : Int) (h : rwOK mem 0 m) (hn : 0 ≤ mem 23 1 ∧ mem 23 1 ≤ 24) (hx : R32 x1) (nx : ∀ m', rwOK mem 1 m' → mmT bX4_rowsWith 3 0 0 (mQ 0 (rwQ mem x1)) 2 [(2, 35), (0, x1), (0, 1), (9, 0), (9, 0)] [] mS m') : mmT bX4_rowsWith 3 0 0 (mQ 0 (rwQ mem x1)) 16 [(2, 35), (0, x1), (0, 0), (9, 0), (9, 0)] [] mS m := by
  have e23 : m 23 = mem 23 := h.1 23 (by omega)
  refine bk_X4_rowsWith_0_16 rfl (fun g => absurd rfl g) (fun g => ?_) (s2 := fun g => absurd rfl g) (s3 := fun _ => by rw [e23]; omega)
  have key : ∀ (t : Nat) (m' : mmM), (t : Int) ≤ mem 23 1 → rwFr mem m' → (∀ s, (t : Int) ≤ s → s ≤ mem 23 1 → m' 40 s = 1) → mmT bX4_rowsWith 3 0 0 (mQ 0 (rwQ mem x1)) 49 [(2, 35), (0, x1), (0, 0), (0, (t : Int) - 1), (9, 0)] [] mS m' := by
    intro t
    induction t with
    | zero =>
      intro m' ht f r
      refine bk_X4_rowsWith_0_49 rfl rfl (fun g => nx m' ⟨f, fun j hj s s0 s1 => ?_⟩) (fun g => by omega) (fun g => by omega) (s3 := fun g => by omega) (s4 := fun g => by omega) (s5 := fun g => by omega) (s6 := fun g => by omega) (s7 := fun g => by omega) (s8 := fun g => by omega) (s9 := fun g => by omega) (s10 := fun g => by omega)
      rw [show j = 0 by omega]
      exact r s (by omega) s1
    | succ t ih =>
      intro m' ht f r
      have e1 : m' 40 ((((t + 1 : Nat) : Int) - 1) + 1) = 1 := r _ (by omega) (by omega)
      refine bk_X4_rowsWith_0_49 rfl rfl (fun g => by omega) (fun g g2 => ?_) (fun g g2 => absurd g2 (by decide)) (s3 := fun g _ => by omega) (s4 := fun g _ => by omega) (s5 := fun g _ => by rw [e1]; omega) (s6 := fun g g2 => absurd g2 (by decide)) (s7 := fun g g2 => absurd g2 (by decide)) (s8 := fun g g2 => absurd g2 (by decide)) (s9 := fun g g2 => absurd g2 (by decide)) (s10 := fun g g2 => absurd g2 (by decide))
      rw [e1, show ((t + 1 : Nat) : Int) - 1 + (-1) = (t : Int) - 1 by omega]
      refine ih _ (by omega) (fun a ha => by rw [mset_ne (by omega)]; exact f a ha) (fun s s0 s1 => ?_)
      rw [mset_at]
      split
      · rfl
      · exact r s (by omega) s1
  have k := key (mem 23 1).toNat (mset m 40 (m 23 1) 1) (by omega) (fun a ha => by rw [mset_ne (by omega)]; exact h.1 a ha) (fun s s0 s1 => by rw [mset_at, e23, if_pos (by omega)])
  rw [show (((mem 23 1).toNat : Nat) : Int) = mem 23 1 by omega] at k
  rw [show m 23 1 - 1 = mem 23 1 - 1 by rw [e23]]
  exact k
theorem cn_X4_rowsWith_1 {d : Nat} {P : Int → mmM → Prop} {mem : mmM} {x1 : Int} (h : mmT bX4_rowsWith d 0 0 (mQ 0 P) 0 [(2, 35), (0, x1), (9, 0), (9, 0), (9, 0)] [] mS mem) : con 0 bX4_rowsWith d [(2, 35), (0, x1)] mem P := mmC_of [(2, 35), (0, x1), (9, 0), (9, 0), (9, 0)] ok_X4_rowsWith.2.2.2.2 rfl (Nat.le_of_ble_eq_true rfl) h
theorem bk_X4_rowsWith_1_0 {d : Nat} {P : Int → mmM → Prop} {mem : mmM} {x1 : Int}
  (k1 : mmT bX4_rowsWith d 0 0 (mQ 0 P) 2 [(2, 35), (0, x1), (0, 0), (9, 0), (9, 0)] [] mS mem)
  : mmT bX4_rowsWith d 0 0 (mQ 0 P) 0 [(2, 35), (0, x1), (9, 0), (9, 0), (9, 0)] [] mS mem := by
  refine st_iconst dX4_rowsWith_0 ?_
  refine st_istore_n (i := 2) rfl (by decide) (lc' := [(2, 35), (0, x1), (0, 0), (9, 0), (9, 0)]) rfl dX4_rowsWith_1 ?_
  exact st_locals [(2, 35), (0, x1), (0, 0), (9, 0), (9, 0)] ⟨Or.inr rfl, Or.inr rfl, Or.inr rfl, Or.inl rfl, Or.inl rfl, trivial⟩ k1
theorem bk_X4_rowsWith_1_2 {d : Nat} {P : Int → mmM → Prop} {mem : mmM} {x1 x2 : Int}
  (k1 : x1 < x2 → mmT bX4_rowsWith d 0 0 (mQ 0 P) 137 [(2, 35), (0, x1), (9, 0), (9, 0), (9, 0)] [] mS mem)
  (k2 : x2 ≤ x1 → 7 ≤ x2 → mmT bX4_rowsWith d 0 0 (mQ 0 P) 137 [(2, 35), (0, x1), (9, 0), (9, 0), (9, 0)] [] mS mem)
  (k3 : x2 ≤ x1 → x2 < 7 → mmT bX4_rowsWith d 0 0 (mQ 0 P) 16 [(2, 35), (0, x1), (0, x2), (9, 0), (9, 0)] [] mS mem)
  (s1 : R32 x2 := by intros; first | omega | assumption | solve_by_elim)
  (s2 : R32 x1 := by intros; first | omega | assumption | solve_by_elim)
  : mmT bX4_rowsWith d 0 0 (mQ 0 P) 2 [(2, 35), (0, x1), (0, x2), (9, 0), (9, 0)] [] mS mem := by
  refine st_iload_n (i := 2) rfl rfl dX4_rowsWith_2 ?_
  refine st_iload_n (i := 1) rfl rfl dX4_rowsWith_3 ?_
  refine sr_icmp_gt 137 s1 s2 (by decide) dX4_rowsWith_4 (fun h1 => ?_) (fun h1 => ?_)
  · have h1 : x1 < x2 := by omega
    exact st_locals [(2, 35), (0, x1), (9, 0), (9, 0), (9, 0)] ⟨Or.inr rfl, Or.inr rfl, Or.inl rfl, Or.inl rfl, Or.inl rfl, trivial⟩ (k1 h1)
  · have h1 : x2 ≤ x1 := by omega
    refine st_iload_n (i := 2) rfl rfl dX4_rowsWith_7 ?_
    refine st_aload_n (i := 0) rfl (t := 0) rfl (by decide) dX4_rowsWith_8 ?_
    refine so_getA 35 4 fr_X4_23_4 rfl sh_35 fx_35_4 dX4_rowsWith_9 ?_
    refine so_alen (v := 7) 39 rfl sh_39 (by decide) rfl dX4_rowsWith_12 ?_
    refine sr_icmp_ge 137 s1 ⟨by decide, by decide⟩ (by decide) dX4_rowsWith_13 (fun h2 => ?_) (fun h2 => ?_)
    · have h2 : 7 ≤ x2 := by omega
      exact st_locals [(2, 35), (0, x1), (9, 0), (9, 0), (9, 0)] ⟨Or.inr rfl, Or.inr rfl, Or.inl rfl, Or.inl rfl, Or.inl rfl, trivial⟩ (k2 h1 h2)
    · have h2 : x2 < 7 := by omega
      exact st_locals [(2, 35), (0, x1), (0, x2), (9, 0), (9, 0)] ⟨Or.inr rfl, Or.inr rfl, Or.inr rfl, Or.inl rfl, Or.inl rfl, trivial⟩ (k3 h1 h2)
theorem bk_X4_rowsWith_1_16 {d : Nat} {P : Int → mmM → Prop} {mem : mmM} {x1 x2 : Int}
  (oi_0 : x2 = 1)
  (k1 : ¬ x2 = 0 → mmT bX4_rowsWith d 0 0 (mQ 0 P) 49 [(2, 35), (0, x1), (0, x2), (0, ((mem 23 1) - 1)), (9, 0)] [] mS (mset mem 41 (mem 23 1) 0))
  (k2 : x2 = 0 → mmT bX4_rowsWith d 0 0 (mQ 0 P) 49 [(2, 35), (0, x1), (0, x2), (0, ((mem 23 1) - 1)), (9, 0)] [] mS (mset mem 41 (mem 23 1) 1))
  (s1 : R32 x2 := by intros; first | omega | assumption | solve_by_elim)
  (s2 : ¬ x2 = 0 → 0 ≤ (mem 23 1) ∧ (mem 23 1) < 25 := by intros; first | omega | assumption | solve_by_elim)
  (s3 : x2 = 0 → 0 ≤ (mem 23 1) ∧ (mem 23 1) < 25 := by intros; first | omega | assumption | solve_by_elim)
  : mmT bX4_rowsWith d 0 0 (mQ 0 P) 16 [(2, 35), (0, x1), (0, x2), (9, 0), (9, 0)] [] mS mem := by
  refine st_aload_n (i := 0) rfl (t := 0) rfl (by decide) dX4_rowsWith_16 ?_
  refine so_getA 35 4 fr_X4_23_4 rfl sh_35 fx_35_4 dX4_rowsWith_17 ?_
  refine st_iload_n (i := 2) rfl rfl dX4_rowsWith_20 ?_
  refine so_aald (v := 41) 39 (by decide) rfl sh_39 (by decide) (by omega) (fun hfx => by rw [oi_0]; exact hfx _ fx_39_1) dX4_rowsWith_21 ?_
  refine st_aload_n (i := 0) rfl (t := 0) rfl (by decide) dX4_rowsWith_22 ?_
  refine so_getA 35 0 fr_X4_26_4 rfl sh_35 fx_35_0 dX4_rowsWith_23 ?_
  refine so_getI (v := (mem 23 1)) 23 1 fr_X4_36_8 rfl sh_23 rfl dX4_rowsWith_26 (fun r1 => ?_)
  refine st_iload_n (i := 2) rfl rfl dX4_rowsWith_29 ?_
  refine sr_if_ne 37 s1 (by decide) dX4_rowsWith_30 (fun h1 => ?_) (fun h1 => ?_)
  · have h1 : ¬ x2 = 0 := by omega
    refine st_lconst (v := 0) rfl dX4_rowsWith_37 ?_
    refine so_last 41 fr_41 rfl sh_41 (by decide) (s2 h1) ⟨by decide, by decide⟩ dX4_rowsWith_38 ?_
    refine st_aload_n (i := 0) rfl (t := 0) rfl (by decide) dX4_rowsWith_39 ?_
    refine so_getA 35 0 fr_X4_26_4 rfl sh_35 fx_35_0 dX4_rowsWith_40 ?_
    refine so_getI (v := (mem 23 1)) 23 1 fr_X4_36_8 rfl sh_23 rfl dX4_rowsWith_43 (fun r2 => ?_)
    refine st_iconst dX4_rowsWith_46 ?_
    refine st_isub dX4_rowsWith_47 ?_
    refine st_istore_n (i := 3) rfl (by decide) (lc' := [(2, 35), (0, x1), (0, x2), (0, ((mem 23 1) - 1)), (9, 0)]) rfl dX4_rowsWith_48 ?_
    exact st_locals [(2, 35), (0, x1), (0, x2), (0, ((mem 23 1) - 1)), (9, 0)] ⟨Or.inr rfl, Or.inr rfl, Or.inr rfl, Or.inr rfl, Or.inl rfl, trivial⟩ (k1 h1)
  · have h1 : x2 = 0 := by omega
    refine st_lconst (v := 1) rfl dX4_rowsWith_33 ?_
    refine st_goto 38 (by decide) dX4_rowsWith_34 ?_
    refine so_last 41 fr_41 rfl sh_41 (by decide) (s3 h1) ⟨by decide, by decide⟩ dX4_rowsWith_38 ?_
    refine st_aload_n (i := 0) rfl (t := 0) rfl (by decide) dX4_rowsWith_39 ?_
    refine so_getA 35 0 fr_X4_26_4 rfl sh_35 fx_35_0 dX4_rowsWith_40 ?_
    refine so_getI (v := (mem 23 1)) 23 1 fr_X4_36_8 rfl sh_23 rfl dX4_rowsWith_43 (fun r3 => ?_)
    refine st_iconst dX4_rowsWith_46 ?_
    refine st_isub dX4_rowsWith_47 ?_
    refine st_istore_n (i := 3) rfl (by decide) (lc' := [(2, 35), (0, x1), (0, x2), (0, ((mem 23 1) - 1)), (9, 0)]) rfl dX4_rowsWith_48 ?_
    exact st_locals [(2, 35), (0, x1), (0, x2), (0, ((mem 23 1) - 1)), (9, 0)] ⟨Or.inr rfl, Or.inr rfl, Or.inr rfl, Or.inr rfl, Or.inl rfl, trivial⟩ (k2 h1)
theorem bk_X4_rowsWith_1_49 {d : Nat} {P : Int → mmM → Prop} {mem : mmM} {x1 x2 x3 : Int}
  (oi_0 : x2 = 1)
  (oi_1 : (x2 - 1) = 0)
  (k1 : x3 < 0 → mmT bX4_rowsWith d 0 0 (mQ 0 P) 2 [(2, 35), (0, x1), (0, (x2 + 1)), (9, 0), (9, 0)] [] mS mem)
  (k2 : 0 ≤ x3 → x2 ≤ 0 → mmT bX4_rowsWith d 0 0 (mQ 0 P) 49 [(2, 35), (0, x1), (0, x2), (0, (x3 + (-1))), (9, 0)] [] mS (mset mem 41 x3 ((mem 41 (x3 + 1)) + 0)))
  (k3 : 0 ≤ x3 → 0 < x2 → ¬ (0 ≤ (mem 38 x3) ∧ (mem 38 x3) < (mem 23 1)) → mmT bX4_rowsWith d 0 0 (mQ 0 P) 49 [(2, 35), (0, x1), (0, x2), (0, (x3 + (-1))), (9, 0)] [] mS (mset mem 41 x3 ((mem 41 (x3 + 1)) + 0)))
  (k4 : 0 ≤ x3 → 0 < x2 → (0 ≤ (mem 38 x3) ∧ (mem 38 x3) < (mem 23 1)) → mmT bX4_rowsWith d 0 0 (mQ 0 P) 49 [(2, 35), (0, x1), (0, x2), (0, (x3 + (-1))), (9, 0)] [] mS (mset mem 41 x3 ((mem 41 (x3 + 1)) + (mem 40 ((mem 38 x3) + 1)))))
  (hd2 : 2 ≤ d := by omega)
  (s1 : R32 x3 := by intros; first | omega | assumption | solve_by_elim)
  (s2 : 0 ≤ x3 → R32 x2 := by intros; first | omega | assumption | solve_by_elim)
  (s3 : 0 ≤ x3 → x2 ≤ 0 → 0 ≤ (x3 + 1) ∧ (x3 + 1) < 25 := by intros; first | omega | assumption | solve_by_elim)
  (s4 : 0 ≤ x3 → x2 ≤ 0 → 0 ≤ x3 ∧ x3 < 25 := by intros; first | omega | assumption | solve_by_elim)
  (s5 : 0 ≤ x3 → x2 ≤ 0 → R64 ((mem 41 (x3 + 1)) + 0) := by intros; first | omega | assumption | solve_by_elim)
  (s6 : 0 ≤ x3 → 0 < x2 → 0 ≤ x3 ∧ x3 < 24 := by intros; first | omega | assumption | solve_by_elim)
  (s7 : 0 ≤ x3 → 0 < x2 → ¬ (0 ≤ (mem 38 x3) ∧ (mem 38 x3) < (mem 23 1)) → 0 ≤ (x3 + 1) ∧ (x3 + 1) < 25 := by intros; first | omega | assumption | solve_by_elim)
  (s8 : 0 ≤ x3 → 0 < x2 → ¬ (0 ≤ (mem 38 x3) ∧ (mem 38 x3) < (mem 23 1)) → 0 ≤ x3 ∧ x3 < 25 := by intros; first | omega | assumption | solve_by_elim)
  (s9 : 0 ≤ x3 → 0 < x2 → ¬ (0 ≤ (mem 38 x3) ∧ (mem 38 x3) < (mem 23 1)) → R64 ((mem 41 (x3 + 1)) + 0) := by intros; first | omega | assumption | solve_by_elim)
  (s10 : 0 ≤ x3 → 0 < x2 → (0 ≤ (mem 38 x3) ∧ (mem 38 x3) < (mem 23 1)) → 0 ≤ (x3 + 1) ∧ (x3 + 1) < 25 := by intros; first | omega | assumption | solve_by_elim)
  (s11 : 0 ≤ x3 → 0 < x2 → (0 ≤ (mem 38 x3) ∧ (mem 38 x3) < (mem 23 1)) → 0 ≤ ((mem 38 x3) + 1) ∧ ((mem 38 x3) + 1) < 25 := by intros; first | omega | assumption | solve_by_elim)
  (s12 : 0 ≤ x3 → 0 < x2 → (0 ≤ (mem 38 x3) ∧ (mem 38 x3) < (mem 23 1)) → 0 ≤ x3 ∧ x3 < 25 := by intros; first | omega | assumption | solve_by_elim)
  (s13 : 0 ≤ x3 → 0 < x2 → (0 ≤ (mem 38 x3) ∧ (mem 38 x3) < (mem 23 1)) → R64 ((mem 41 (x3 + 1)) + (mem 40 ((mem 38 x3) + 1))) := by intros; first | omega | assumption | solve_by_elim)
  : mmT bX4_rowsWith d 0 0 (mQ 0 P) 49 [(2, 35), (0, x1), (0, x2), (0, x3), (9, 0)] [] mS mem := by
  refine st_iload_n (i := 3) rfl rfl dX4_rowsWith_49 ?_
  refine sr_if_lt 131 s1 (by decide) dX4_rowsWith_50 (fun h1 => ?_) (fun h1 => ?_)
  · have h1 : x3 < 0 := by omega
    refine st_iinc (y := (x2 + 1)) (by decide) (i := 2) rfl rfl (lc' := [(2, 35), (0, x1), (0, (x2 + 1)), (0, x3), (9, 0)]) rfl dX4_rowsWith_131 ?_
    refine st_goto 2 (by decide) dX4_rowsWith_134 ?_
    exact st_locals [(2, 35), (0, x1), (0, (x2 + 1)), (9, 0), (9, 0)] ⟨Or.inr rfl, Or.inr rfl, Or.inr rfl, Or.inl rfl, Or.inl rfl, trivial⟩ (k1 h1)
  · have h1 : 0 ≤ x3 := by omega
    refine st_iload_n (i := 2) rfl rfl dX4_rowsWith_53 ?_
    refine sr_if_le 77 (s2 h1) (by decide) dX4_rowsWith_54 (fun h2 => ?_) (fun h2 => ?_)
    · have h2 : x2 ≤ 0 := by omega
      refine st_iconst dX4_rowsWith_77 ?_
      refine st_istore (by decide) (lc' := [(2, 35), (0, x1), (0, x2), (0, x3), (0, 0)]) rfl dX4_rowsWith_78 ?_
      refine st_aload_n (i := 0) rfl (t := 0) rfl (by decide) dX4_rowsWith_80 ?_
      refine so_getA 35 4 fr_X4_23_4 rfl sh_35 fx_35_4 dX4_rowsWith_81 ?_
      refine st_iload_n (i := 2) rfl rfl dX4_rowsWith_84 ?_
      refine so_aald (v := 41) 39 (by decide) rfl sh_39 (by decide) (by omega) (fun hfx => by rw [oi_0]; exact hfx _ fx_39_1) dX4_rowsWith_85 ?_
      refine st_iload_n (i := 3) rfl rfl dX4_rowsWith_86 ?_
      refine st_aload_n (i := 0) rfl (t := 0) rfl (by decide) dX4_rowsWith_87 ?_
      refine so_getA 35 4 fr_X4_23_4 rfl sh_35 fx_35_4 dX4_rowsWith_88 ?_
      refine st_iload_n (i := 2) rfl rfl dX4_rowsWith_91 ?_
      refine so_aald (v := 41) 39 (by decide) rfl sh_39 (by decide) (by omega) (fun hfx => by rw [oi_0]; exact hfx _ fx_39_1) dX4_rowsWith_92 ?_
      refine st_iload_n (i := 3) rfl rfl dX4_rowsWith_93 ?_
      refine st_iconst dX4_rowsWith_94 ?_
      refine st_iadd dX4_rowsWith_95 ?_
      refine so_lald (v := (mem 41 (x3 + 1))) 41 rfl sh_41 (by decide) (s3 h1 h2) rfl dX4_rowsWith_96 (fun r1 => ?_)
      refine st_iload rfl dX4_rowsWith_97 ?_
      refine sr_if_eq 122 ⟨by decide, by decide⟩ (by decide) dX4_rowsWith_99 (fun h => ?_) (fun h => ?_)
      rotate_left
      · exact absurd h (by decide)
      refine st_lconst (v := 0) rfl dX4_rowsWith_122 ?_
      refine st_ladd dX4_rowsWith_123 ?_
      refine so_last 41 fr_41 rfl sh_41 (by decide) (s4 h1 h2) (s5 h1 h2) dX4_rowsWith_124 ?_
      refine st_iinc (y := (x3 + (-1))) (by decide) (i := 3) rfl rfl (lc' := [(2, 35), (0, x1), (0, x2), (0, (x3 + (-1))), (0, 0)]) rfl dX4_rowsWith_125 ?_
      refine st_goto 49 (by decide) dX4_rowsWith_128 ?_
      exact st_locals [(2, 35), (0, x1), (0, x2), (0, (x3 + (-1))), (9, 0)] ⟨Or.inr rfl, Or.inr rfl, Or.inr rfl, Or.inr rfl, Or.inl rfl, trivial⟩ (k2 h1 h2)
    · have h2 : 0 < x2 := by omega
      refine st_aload_n (i := 0) rfl (t := 0) rfl (by decide) dX4_rowsWith_57 ?_
      refine so_getA 35 0 fr_X4_26_4 rfl sh_35 fx_35_0 dX4_rowsWith_58 ?_
      refine st_aload_n (i := 0) rfl (t := 0) rfl (by decide) dX4_rowsWith_61 ?_
      refine so_getA 35 3 fr_X4_18_4 rfl sh_35 fx_35_3 dX4_rowsWith_62 ?_
      refine st_iload_n (i := 3) rfl rfl dX4_rowsWith_65 ?_
      refine so_iald (v := (mem 38 x3)) 38 rfl sh_38 (by decide) (s6 h1 h2) rfl dX4_rowsWith_66 (fun r2 => ?_)
      refine st_callV (kc2 := 0) (ks2 := 0) (av := [(0, (mem 38 x3))]) 23 8 mr_X4_61 ok_X8_has (c_X8_has mem (mem 38 x3) (r2)) rfl sh_23 ⟨_, rfl, rfl, by decide⟩ rfl rfl hd2 (Nat.le_refl 0) (Nat.le_refl 0) (Nat.le_of_ble_eq_true rfl) dX4_rowsWith_67 (mQ.elim fun v1 m1 hp => ?_)
      obtain ⟨hpv, hpm⟩ := hp
      subst hpv
      have hpm := hpm.symm
      subst hpm
      refine so_ifeqB 77 (by decide) dX4_rowsWith_70 (fun h3 => ?_) (fun h3 => ?_)
      · have h3 : ¬ (0 ≤ (mem 38 x3) ∧ (mem 38 x3) < (mem 23 1)) := h3
        refine st_iconst dX4_rowsWith_77 ?_
        refine st_istore (by decide) (lc' := [(2, 35), (0, x1), (0, x2), (0, x3), (0, 0)]) rfl dX4_rowsWith_78 ?_
        refine st_aload_n (i := 0) rfl (t := 0) rfl (by decide) dX4_rowsWith_80 ?_
        refine so_getA 35 4 fr_X4_23_4 rfl sh_35 fx_35_4 dX4_rowsWith_81 ?_
        refine st_iload_n (i := 2) rfl rfl dX4_rowsWith_84 ?_
        refine so_aald (v := 41) 39 (by decide) rfl sh_39 (by decide) (by omega) (fun hfx => by rw [oi_0]; exact hfx _ fx_39_1) dX4_rowsWith_85 ?_
        refine st_iload_n (i := 3) rfl rfl dX4_rowsWith_86 ?_
        refine st_aload_n (i := 0) rfl (t := 0) rfl (by decide) dX4_rowsWith_87 ?_
        refine so_getA 35 4 fr_X4_23_4 rfl sh_35 fx_35_4 dX4_rowsWith_88 ?_
        refine st_iload_n (i := 2) rfl rfl dX4_rowsWith_91 ?_
        refine so_aald (v := 41) 39 (by decide) rfl sh_39 (by decide) (by omega) (fun hfx => by rw [oi_0]; exact hfx _ fx_39_1) dX4_rowsWith_92 ?_
        refine st_iload_n (i := 3) rfl rfl dX4_rowsWith_93 ?_
        refine st_iconst dX4_rowsWith_94 ?_
        refine st_iadd dX4_rowsWith_95 ?_
        refine so_lald (v := (mem 41 (x3 + 1))) 41 rfl sh_41 (by decide) (s7 h1 h2 h3) rfl dX4_rowsWith_96 (fun r3 => ?_)
        refine st_iload rfl dX4_rowsWith_97 ?_
        refine sr_if_eq 122 ⟨by decide, by decide⟩ (by decide) dX4_rowsWith_99 (fun h => ?_) (fun h => ?_)
        rotate_left
        · exact absurd h (by decide)
        refine st_lconst (v := 0) rfl dX4_rowsWith_122 ?_
        refine st_ladd dX4_rowsWith_123 ?_
        refine so_last 41 fr_41 rfl sh_41 (by decide) (s8 h1 h2 h3) (s9 h1 h2 h3) dX4_rowsWith_124 ?_
        refine st_iinc (y := (x3 + (-1))) (by decide) (i := 3) rfl rfl (lc' := [(2, 35), (0, x1), (0, x2), (0, (x3 + (-1))), (0, 0)]) rfl dX4_rowsWith_125 ?_
        refine st_goto 49 (by decide) dX4_rowsWith_128 ?_
        exact st_locals [(2, 35), (0, x1), (0, x2), (0, (x3 + (-1))), (9, 0)] ⟨Or.inr rfl, Or.inr rfl, Or.inr rfl, Or.inr rfl, Or.inl rfl, trivial⟩ (k3 h1 h2 h3)
      · have h3 : (0 ≤ (mem 38 x3) ∧ (mem 38 x3) < (mem 23 1)) := h3
        refine st_iconst dX4_rowsWith_73 ?_
        refine st_goto 78 (by decide) dX4_rowsWith_74 ?_
        refine st_istore (by decide) (lc' := [(2, 35), (0, x1), (0, x2), (0, x3), (0, 1)]) rfl dX4_rowsWith_78 ?_
        refine st_aload_n (i := 0) rfl (t := 0) rfl (by decide) dX4_rowsWith_80 ?_
        refine so_getA 35 4 fr_X4_23_4 rfl sh_35 fx_35_4 dX4_rowsWith_81 ?_
        refine st_iload_n (i := 2) rfl rfl dX4_rowsWith_84 ?_
        refine so_aald (v := 41) 39 (by decide) rfl sh_39 (by decide) (by omega) (fun hfx => by rw [oi_0]; exact hfx _ fx_39_1) dX4_rowsWith_85 ?_
        refine st_iload_n (i := 3) rfl rfl dX4_rowsWith_86 ?_
        refine st_aload_n (i := 0) rfl (t := 0) rfl (by decide) dX4_rowsWith_87 ?_
        refine so_getA 35 4 fr_X4_23_4 rfl sh_35 fx_35_4 dX4_rowsWith_88 ?_
        refine st_iload_n (i := 2) rfl rfl dX4_rowsWith_91 ?_
        refine so_aald (v := 41) 39 (by decide) rfl sh_39 (by decide) (by omega) (fun hfx => by rw [oi_0]; exact hfx _ fx_39_1) dX4_rowsWith_92 ?_
        refine st_iload_n (i := 3) rfl rfl dX4_rowsWith_93 ?_
        refine st_iconst dX4_rowsWith_94 ?_
        refine st_iadd dX4_rowsWith_95 ?_
        refine so_lald (v := (mem 41 (x3 + 1))) 41 rfl sh_41 (by decide) (s10 h1 h2 h3) rfl dX4_rowsWith_96 (fun r4 => ?_)
        refine st_iload rfl dX4_rowsWith_97 ?_
        refine sr_if_eq 122 ⟨by decide, by decide⟩ (by decide) dX4_rowsWith_99 (fun h => ?_) (fun h => ?_)
        · exact absurd h (by decide)
        refine st_aload_n (i := 0) rfl (t := 0) rfl (by decide) dX4_rowsWith_102 ?_
        refine so_getA 35 4 fr_X4_23_4 rfl sh_35 fx_35_4 dX4_rowsWith_103 ?_
        refine st_iload_n (i := 2) rfl rfl dX4_rowsWith_106 ?_
        refine st_iconst dX4_rowsWith_107 ?_
        refine st_isub dX4_rowsWith_108 ?_
        refine so_aald (v := 40) 39 (by decide) rfl sh_39 (by decide) (by omega) (fun hfx => by rw [oi_1]; exact hfx _ fx_39_0) dX4_rowsWith_109 ?_
        refine st_aload_n (i := 0) rfl (t := 0) rfl (by decide) dX4_rowsWith_110 ?_
        refine so_getA 35 3 fr_X4_18_4 rfl sh_35 fx_35_3 dX4_rowsWith_111 ?_
        refine st_iload_n (i := 3) rfl rfl dX4_rowsWith_114 ?_
        refine so_iald (v := (mem 38 x3)) 38 rfl sh_38 (by decide) (s6 h1 h2) rfl dX4_rowsWith_115 (fun r5 => ?_)
        refine st_iconst dX4_rowsWith_116 ?_
        refine st_iadd dX4_rowsWith_117 ?_
        refine so_lald (v := (mem 40 ((mem 38 x3) + 1))) 40 rfl sh_40 (by decide) (s11 h1 h2 h3) rfl dX4_rowsWith_118 (fun r6 => ?_)
        refine st_goto 123 (by decide) dX4_rowsWith_119 ?_
        refine st_ladd dX4_rowsWith_123 ?_
        refine so_last 41 fr_41 rfl sh_41 (by decide) (s12 h1 h2 h3) (s13 h1 h2 h3) dX4_rowsWith_124 ?_
        refine st_iinc (y := (x3 + (-1))) (by decide) (i := 3) rfl rfl (lc' := [(2, 35), (0, x1), (0, x2), (0, (x3 + (-1))), (0, 1)]) rfl dX4_rowsWith_125 ?_
        refine st_goto 49 (by decide) dX4_rowsWith_128 ?_
        exact st_locals [(2, 35), (0, x1), (0, x2), (0, (x3 + (-1))), (9, 0)] ⟨Or.inr rfl, Or.inr rfl, Or.inr rfl, Or.inr rfl, Or.inl rfl, trivial⟩ (k4 h1 h2 h3)
theorem bk_X4_rowsWith_1_137 {d : Nat} {P : Int → mmM → Prop} {mem : mmM} {x1 : Int}
  (oi_0 : x1 = 1)
  (q1 : x1 < 0 → P (-1) mem)
  (q2 : 0 ≤ x1 → 7 ≤ x1 → P (-1) mem)
  (q3 : 0 ≤ x1 → x1 < 7 → P (min 1000000000 (mem 41 0)) mem)
  (hd1 : 1 ≤ d := by omega)
  (s1 : R32 x1 := by intros; first | omega | assumption | solve_by_elim)
  : mmT bX4_rowsWith d 0 0 (mQ 0 P) 137 [(2, 35), (0, x1), (9, 0), (9, 0), (9, 0)] [] mS mem := by
  refine st_iload_n (i := 1) rfl rfl dX4_rowsWith_137 ?_
  refine sr_if_lt 168 s1 (by decide) dX4_rowsWith_138 (fun h1 => ?_) (fun h1 => ?_)
  · have h1 : x1 < 0 := by omega
    refine st_iconst dX4_rowsWith_168 ?_
    exact st_ireturn rfl dX4_rowsWith_169 (mQ.ret (q1 h1))
  · have h1 : 0 ≤ x1 := by omega
    refine st_iload_n (i := 1) rfl rfl dX4_rowsWith_141 ?_
    refine st_aload_n (i := 0) rfl (t := 0) rfl (by decide) dX4_rowsWith_142 ?_
    refine so_getA 35 4 fr_X4_23_4 rfl sh_35 fx_35_4 dX4_rowsWith_143 ?_
    refine so_alen (v := 7) 39 rfl sh_39 (by decide) rfl dX4_rowsWith_146 ?_
    refine sr_icmp_ge 168 s1 ⟨by decide, by decide⟩ (by decide) dX4_rowsWith_147 (fun h2 => ?_) (fun h2 => ?_)
    · have h2 : 7 ≤ x1 := by omega
      refine st_iconst dX4_rowsWith_168 ?_
      exact st_ireturn rfl dX4_rowsWith_169 (mQ.ret (q2 h1 h2))
    · have h2 : x1 < 7 := by omega
      refine st_ldc2 cw_X4_65 dX4_rowsWith_150 ?_
      refine st_aload_n (i := 0) rfl (t := 0) rfl (by decide) dX4_rowsWith_153 ?_
      refine so_getA 35 4 fr_X4_23_4 rfl sh_35 fx_35_4 dX4_rowsWith_154 ?_
      refine st_iload_n (i := 1) rfl rfl dX4_rowsWith_157 ?_
      refine so_aald (v := 41) 39 (by decide) rfl sh_39 (by decide) (by omega) (fun hfx => by rw [oi_0]; exact hfx _ fx_39_1) dX4_rowsWith_158 ?_
      refine st_iconst dX4_rowsWith_159 ?_
      refine so_lald (v := (mem 41 0)) 41 rfl sh_41 (by decide) ⟨by decide, by decide⟩ rfl dX4_rowsWith_160 (fun r1 => ?_)
      refine sr_mminl ⟨by decide, by decide⟩ r1 mr_X4_67 ms_minj mi_Math mc_minj hd1 (Nat.le_of_ble_eq_true rfl) dX4_rowsWith_161 ?_
      refine st_l2i dX4_rowsWith_164 ?_
      refine st_goto 169 (by decide) dX4_rowsWith_165 ?_
      exact st_ireturn rfl dX4_rowsWith_169 (mQ.ret (q3 h1 h2))
theorem rX_ex_1 (mem m : mmM) (x1 : Int) (hx : x1 = 1) (h : rwOK mem 2 m) (hn : 0 ≤ mem 23 1) : mmT bX4_rowsWith 3 0 0 (mQ 0 (rwQ mem x1)) 137 [(2, 35), (0, x1), (9, 0), (9, 0), (9, 0)] [] mS m := by
  refine bk_X4_rowsWith_1_137 hx (fun g => by omega) (fun g g2 => by omega) (fun g g2 => ⟨?_, h.1⟩)
  have := h.2 1 (by decide) 0 (by omega) hn
  rw [hx]
  exact congrArg (min 1000000000) this
theorem rX_in_1 (mem m : mmM) (x1 : Int) (h : rwOK mem 1 m) (hn : 0 ≤ mem 23 1 ∧ mem 23 1 ≤ 24) (hx : R32 x1) (nx : ∀ m', rwOK mem 2 m' → mmT bX4_rowsWith 3 0 0 (mQ 0 (rwQ mem x1)) 2 [(2, 35), (0, x1), (0, 2), (9, 0), (9, 0)] [] mS m') : mmT bX4_rowsWith 3 0 0 (mQ 0 (rwQ mem x1)) 16 [(2, 35), (0, x1), (0, 1), (9, 0), (9, 0)] [] mS m := by
  have e23 : m 23 = mem 23 := h.1 23 (by omega)
  have b0 : ∀ s, 0 ≤ s → 0 ≤ rwR (mem 23 1) (mem 38) 1 s ∧ rwR (mem 23 1) (mem 38) 1 s ≤ 191102976 := fun s s0 => by
    have := rwR_bnd (to := mem 38) hn.2 1 s0
    have := p24_6 (j := 1) (by decide)
    omega
  have b1 : ∀ s, 0 ≤ s → 0 ≤ rwR (mem 23 1) (mem 38) 0 s ∧ rwR (mem 23 1) (mem 38) 0 s ≤ 191102976 := fun s s0 => by
    have := rwR_bnd (to := mem 38) hn.2 0 s0
    have := p24_6 (j := 0) (by decide)
    omega
  refine bk_X4_rowsWith_1_16 rfl (fun g => ?_) (fun g => absurd g (by decide)) (s2 := fun _ => by rw [e23]; omega) (s3 := fun g => absurd g (by decide))
  have key : ∀ (t : Nat) (m' : mmM), (t : Int) ≤ mem 23 1 → rwFr mem m' → (∀ j, j < 1 → ∀ s, 0 ≤ s → s ≤ mem 23 1 → m' (40 + j) s = rwR (mem 23 1) (mem 38) j s) → (∀ s, (t : Int) ≤ s → s ≤ mem 23 1 → m' 41 s = rwR (mem 23 1) (mem 38) 1 s) → mmT bX4_rowsWith 3 0 0 (mQ 0 (rwQ mem x1)) 49 [(2, 35), (0, x1), (0, 1), (0, (t : Int) - 1), (9, 0)] [] mS m' := by
    intro t
    induction t with
    | zero =>
      intro m' ht f q r
      refine bk_X4_rowsWith_1_49 rfl rfl (fun g => nx m' ⟨f, fun j hj s s0 s1 => ?_⟩) (fun g => by omega) (fun g => by omega) (fun g => by omega) (s3 := fun g => by omega) (s4 := fun g => by omega) (s5 := fun g => by omega) (s6 := fun g => by omega) (s7 := fun g => by omega) (s8 := fun g => by omega) (s9 := fun g => by omega) (s10 := fun g => by omega) (s11 := fun g => by omega) (s12 := fun g => by omega) (s13 := fun g => by omega)
      rcases Nat.lt_or_ge j 1 with z | z
      · exact q j z s s0 s1
      · rw [show j = 1 by omega]
        exact r s (by omega) s1
    | succ t ih =>
      intro m' ht f q r
      have e38 : m' 38 = mem 38 := f 38 (by omega)
      have e23' : m' 23 = mem 23 := f 23 (by omega)
      have es : ((t + 1 : Nat) : Int) - 1 = (t : Int) := by omega
      rw [es]
      have e1 : m' 41 ((t : Int) + 1) = rwR (mem 23 1) (mem 38) 1 ((t : Int) + 1) := r _ (by omega) (by omega)
      have st := rwR_step (mem 23 1) (mem 38) 0 (s := (t : Int)) (by omega)
      have c1 := b0 ((t : Int) + 1) (by omega)
      have nxt : ∀ v, v = rwR (mem 23 1) (mem 38) 1 (t : Int) → mmT bX4_rowsWith 3 0 0 (mQ 0 (rwQ mem x1)) 49 [(2, 35), (0, x1), (0, 1), (0, (t : Int) + (-1)), (9, 0)] [] mS (mset m' 41 (t : Int) v) := by
        intro v hv
        rw [show (t : Int) + (-1) = (t : Int) - 1 by omega]
        refine ih _ (by omega) (fun a ha => by rw [mset_ne (by omega)]; exact f a ha) (fun j hj s s0 s1 => by rw [mset_ne (by omega)]; exact q j hj s s0 s1) (fun s s0 s1 => ?_)
        rw [mset_at]
        split
        · rename_i e
          rw [hv, e]
        · exact r s (by omega) s1
      have e2 : (0 ≤ mem 38 (t : Int) ∧ mem 38 (t : Int) < mem 23 1) → m' 40 (mem 38 (t : Int) + 1) = rwR (mem 23 1) (mem 38) 0 (mem 38 (t : Int) + 1) := fun z => q 0 (by decide) _ (by omega) (by omega)
      refine bk_X4_rowsWith_1_49 rfl rfl (fun g => by omega) (fun g g2 => absurd g2 (by decide)) (fun g g2 g3 => nxt _ ?_) (fun g g2 g3 => nxt _ ?_) (s3 := fun g g2 => absurd g2 (by decide)) (s4 := fun g g2 => absurd g2 (by decide)) (s5 := fun g g2 => absurd g2 (by decide)) (s6 := fun g g2 => by omega) (s7 := fun g g2 _ => by omega) (s8 := fun g g2 _ => by omega) (s9 := fun g g2 _ => by rw [e1]; omega) (s10 := fun g g2 _ => by omega) (s11 := fun g g2 z => by rw [e38, e23'] at z; rw [e38]; omega) (s12 := fun g g2 _ => by omega) (s13 := fun g g2 z => by
        rw [e38, e23'] at z
        have := b1 (mem 38 (t : Int) + 1) (by omega)
        rw [e38, e1, e2 z]
        omega)
      · rw [e38, e23'] at g3
        rw [e1, st, if_neg g3]
      · rw [e38, e23'] at g3
        rw [e38, e1, e2 g3, st, if_pos g3]
  have k := key (mem 23 1).toNat (mset m 41 (m 23 1) 0) (by omega) (fun a ha => by rw [mset_ne (by omega)]; exact h.1 a ha) (fun j hj s s0 s1 => by rw [mset_ne (by omega)]; exact h.2 j hj s s0 s1) (fun s s0 s1 => by rw [show s = mem 23 1 by omega, mset_at, e23, if_pos rfl, rwR_end, if_neg (by decide)])
  rw [show (((mem 23 1).toNat : Nat) : Int) = mem 23 1 by omega] at k
  rw [show m 23 1 - 1 = mem 23 1 - 1 by rw [e23]]
  exact k
theorem cn_X4_rowsWith_2 {d : Nat} {P : Int → mmM → Prop} {mem : mmM} {x1 : Int} (h : mmT bX4_rowsWith d 0 0 (mQ 0 P) 0 [(2, 35), (0, x1), (9, 0), (9, 0), (9, 0)] [] mS mem) : con 0 bX4_rowsWith d [(2, 35), (0, x1)] mem P := mmC_of [(2, 35), (0, x1), (9, 0), (9, 0), (9, 0)] ok_X4_rowsWith.2.2.2.2 rfl (Nat.le_of_ble_eq_true rfl) h
theorem bk_X4_rowsWith_2_0 {d : Nat} {P : Int → mmM → Prop} {mem : mmM} {x1 : Int}
  (k1 : mmT bX4_rowsWith d 0 0 (mQ 0 P) 2 [(2, 35), (0, x1), (0, 0), (9, 0), (9, 0)] [] mS mem)
  : mmT bX4_rowsWith d 0 0 (mQ 0 P) 0 [(2, 35), (0, x1), (9, 0), (9, 0), (9, 0)] [] mS mem := by
  refine st_iconst dX4_rowsWith_0 ?_
  refine st_istore_n (i := 2) rfl (by decide) (lc' := [(2, 35), (0, x1), (0, 0), (9, 0), (9, 0)]) rfl dX4_rowsWith_1 ?_
  exact st_locals [(2, 35), (0, x1), (0, 0), (9, 0), (9, 0)] ⟨Or.inr rfl, Or.inr rfl, Or.inr rfl, Or.inl rfl, Or.inl rfl, trivial⟩ k1
theorem bk_X4_rowsWith_2_2 {d : Nat} {P : Int → mmM → Prop} {mem : mmM} {x1 x2 : Int}
  (k1 : x1 < x2 → mmT bX4_rowsWith d 0 0 (mQ 0 P) 137 [(2, 35), (0, x1), (9, 0), (9, 0), (9, 0)] [] mS mem)
  (k2 : x2 ≤ x1 → 7 ≤ x2 → mmT bX4_rowsWith d 0 0 (mQ 0 P) 137 [(2, 35), (0, x1), (9, 0), (9, 0), (9, 0)] [] mS mem)
  (k3 : x2 ≤ x1 → x2 < 7 → mmT bX4_rowsWith d 0 0 (mQ 0 P) 16 [(2, 35), (0, x1), (0, x2), (9, 0), (9, 0)] [] mS mem)
  (s1 : R32 x2 := by intros; first | omega | assumption | solve_by_elim)
  (s2 : R32 x1 := by intros; first | omega | assumption | solve_by_elim)
  : mmT bX4_rowsWith d 0 0 (mQ 0 P) 2 [(2, 35), (0, x1), (0, x2), (9, 0), (9, 0)] [] mS mem := by
  refine st_iload_n (i := 2) rfl rfl dX4_rowsWith_2 ?_
  refine st_iload_n (i := 1) rfl rfl dX4_rowsWith_3 ?_
  refine sr_icmp_gt 137 s1 s2 (by decide) dX4_rowsWith_4 (fun h1 => ?_) (fun h1 => ?_)
  · have h1 : x1 < x2 := by omega
    exact st_locals [(2, 35), (0, x1), (9, 0), (9, 0), (9, 0)] ⟨Or.inr rfl, Or.inr rfl, Or.inl rfl, Or.inl rfl, Or.inl rfl, trivial⟩ (k1 h1)
  · have h1 : x2 ≤ x1 := by omega
    refine st_iload_n (i := 2) rfl rfl dX4_rowsWith_7 ?_
    refine st_aload_n (i := 0) rfl (t := 0) rfl (by decide) dX4_rowsWith_8 ?_
    refine so_getA 35 4 fr_X4_23_4 rfl sh_35 fx_35_4 dX4_rowsWith_9 ?_
    refine so_alen (v := 7) 39 rfl sh_39 (by decide) rfl dX4_rowsWith_12 ?_
    refine sr_icmp_ge 137 s1 ⟨by decide, by decide⟩ (by decide) dX4_rowsWith_13 (fun h2 => ?_) (fun h2 => ?_)
    · have h2 : 7 ≤ x2 := by omega
      exact st_locals [(2, 35), (0, x1), (9, 0), (9, 0), (9, 0)] ⟨Or.inr rfl, Or.inr rfl, Or.inl rfl, Or.inl rfl, Or.inl rfl, trivial⟩ (k2 h1 h2)
    · have h2 : x2 < 7 := by omega
      exact st_locals [(2, 35), (0, x1), (0, x2), (9, 0), (9, 0)] ⟨Or.inr rfl, Or.inr rfl, Or.inr rfl, Or.inl rfl, Or.inl rfl, trivial⟩ (k3 h1 h2)
theorem bk_X4_rowsWith_2_16 {d : Nat} {P : Int → mmM → Prop} {mem : mmM} {x1 x2 : Int}
  (oi_0 : x2 = 2)
  (k1 : ¬ x2 = 0 → mmT bX4_rowsWith d 0 0 (mQ 0 P) 49 [(2, 35), (0, x1), (0, x2), (0, ((mem 23 1) - 1)), (9, 0)] [] mS (mset mem 42 (mem 23 1) 0))
  (k2 : x2 = 0 → mmT bX4_rowsWith d 0 0 (mQ 0 P) 49 [(2, 35), (0, x1), (0, x2), (0, ((mem 23 1) - 1)), (9, 0)] [] mS (mset mem 42 (mem 23 1) 1))
  (s1 : R32 x2 := by intros; first | omega | assumption | solve_by_elim)
  (s2 : ¬ x2 = 0 → 0 ≤ (mem 23 1) ∧ (mem 23 1) < 25 := by intros; first | omega | assumption | solve_by_elim)
  (s3 : x2 = 0 → 0 ≤ (mem 23 1) ∧ (mem 23 1) < 25 := by intros; first | omega | assumption | solve_by_elim)
  : mmT bX4_rowsWith d 0 0 (mQ 0 P) 16 [(2, 35), (0, x1), (0, x2), (9, 0), (9, 0)] [] mS mem := by
  refine st_aload_n (i := 0) rfl (t := 0) rfl (by decide) dX4_rowsWith_16 ?_
  refine so_getA 35 4 fr_X4_23_4 rfl sh_35 fx_35_4 dX4_rowsWith_17 ?_
  refine st_iload_n (i := 2) rfl rfl dX4_rowsWith_20 ?_
  refine so_aald (v := 42) 39 (by decide) rfl sh_39 (by decide) (by omega) (fun hfx => by rw [oi_0]; exact hfx _ fx_39_2) dX4_rowsWith_21 ?_
  refine st_aload_n (i := 0) rfl (t := 0) rfl (by decide) dX4_rowsWith_22 ?_
  refine so_getA 35 0 fr_X4_26_4 rfl sh_35 fx_35_0 dX4_rowsWith_23 ?_
  refine so_getI (v := (mem 23 1)) 23 1 fr_X4_36_8 rfl sh_23 rfl dX4_rowsWith_26 (fun r1 => ?_)
  refine st_iload_n (i := 2) rfl rfl dX4_rowsWith_29 ?_
  refine sr_if_ne 37 s1 (by decide) dX4_rowsWith_30 (fun h1 => ?_) (fun h1 => ?_)
  · have h1 : ¬ x2 = 0 := by omega
    refine st_lconst (v := 0) rfl dX4_rowsWith_37 ?_
    refine so_last 42 fr_42 rfl sh_42 (by decide) (s2 h1) ⟨by decide, by decide⟩ dX4_rowsWith_38 ?_
    refine st_aload_n (i := 0) rfl (t := 0) rfl (by decide) dX4_rowsWith_39 ?_
    refine so_getA 35 0 fr_X4_26_4 rfl sh_35 fx_35_0 dX4_rowsWith_40 ?_
    refine so_getI (v := (mem 23 1)) 23 1 fr_X4_36_8 rfl sh_23 rfl dX4_rowsWith_43 (fun r2 => ?_)
    refine st_iconst dX4_rowsWith_46 ?_
    refine st_isub dX4_rowsWith_47 ?_
    refine st_istore_n (i := 3) rfl (by decide) (lc' := [(2, 35), (0, x1), (0, x2), (0, ((mem 23 1) - 1)), (9, 0)]) rfl dX4_rowsWith_48 ?_
    exact st_locals [(2, 35), (0, x1), (0, x2), (0, ((mem 23 1) - 1)), (9, 0)] ⟨Or.inr rfl, Or.inr rfl, Or.inr rfl, Or.inr rfl, Or.inl rfl, trivial⟩ (k1 h1)
  · have h1 : x2 = 0 := by omega
    refine st_lconst (v := 1) rfl dX4_rowsWith_33 ?_
    refine st_goto 38 (by decide) dX4_rowsWith_34 ?_
    refine so_last 42 fr_42 rfl sh_42 (by decide) (s3 h1) ⟨by decide, by decide⟩ dX4_rowsWith_38 ?_
    refine st_aload_n (i := 0) rfl (t := 0) rfl (by decide) dX4_rowsWith_39 ?_
    refine so_getA 35 0 fr_X4_26_4 rfl sh_35 fx_35_0 dX4_rowsWith_40 ?_
    refine so_getI (v := (mem 23 1)) 23 1 fr_X4_36_8 rfl sh_23 rfl dX4_rowsWith_43 (fun r3 => ?_)
    refine st_iconst dX4_rowsWith_46 ?_
    refine st_isub dX4_rowsWith_47 ?_
    refine st_istore_n (i := 3) rfl (by decide) (lc' := [(2, 35), (0, x1), (0, x2), (0, ((mem 23 1) - 1)), (9, 0)]) rfl dX4_rowsWith_48 ?_
    exact st_locals [(2, 35), (0, x1), (0, x2), (0, ((mem 23 1) - 1)), (9, 0)] ⟨Or.inr rfl, Or.inr rfl, Or.inr rfl, Or.inr rfl, Or.inl rfl, trivial⟩ (k2 h1)
theorem bk_X4_rowsWith_2_49 {d : Nat} {P : Int → mmM → Prop} {mem : mmM} {x1 x2 x3 : Int}
  (oi_0 : x2 = 2)
  (oi_1 : (x2 - 1) = 1)
  (k1 : x3 < 0 → mmT bX4_rowsWith d 0 0 (mQ 0 P) 2 [(2, 35), (0, x1), (0, (x2 + 1)), (9, 0), (9, 0)] [] mS mem)
  (k2 : 0 ≤ x3 → x2 ≤ 0 → mmT bX4_rowsWith d 0 0 (mQ 0 P) 49 [(2, 35), (0, x1), (0, x2), (0, (x3 + (-1))), (9, 0)] [] mS (mset mem 42 x3 ((mem 42 (x3 + 1)) + 0)))
  (k3 : 0 ≤ x3 → 0 < x2 → ¬ (0 ≤ (mem 38 x3) ∧ (mem 38 x3) < (mem 23 1)) → mmT bX4_rowsWith d 0 0 (mQ 0 P) 49 [(2, 35), (0, x1), (0, x2), (0, (x3 + (-1))), (9, 0)] [] mS (mset mem 42 x3 ((mem 42 (x3 + 1)) + 0)))
  (k4 : 0 ≤ x3 → 0 < x2 → (0 ≤ (mem 38 x3) ∧ (mem 38 x3) < (mem 23 1)) → mmT bX4_rowsWith d 0 0 (mQ 0 P) 49 [(2, 35), (0, x1), (0, x2), (0, (x3 + (-1))), (9, 0)] [] mS (mset mem 42 x3 ((mem 42 (x3 + 1)) + (mem 41 ((mem 38 x3) + 1)))))
  (hd2 : 2 ≤ d := by omega)
  (s1 : R32 x3 := by intros; first | omega | assumption | solve_by_elim)
  (s2 : 0 ≤ x3 → R32 x2 := by intros; first | omega | assumption | solve_by_elim)
  (s3 : 0 ≤ x3 → x2 ≤ 0 → 0 ≤ (x3 + 1) ∧ (x3 + 1) < 25 := by intros; first | omega | assumption | solve_by_elim)
  (s4 : 0 ≤ x3 → x2 ≤ 0 → 0 ≤ x3 ∧ x3 < 25 := by intros; first | omega | assumption | solve_by_elim)
  (s5 : 0 ≤ x3 → x2 ≤ 0 → R64 ((mem 42 (x3 + 1)) + 0) := by intros; first | omega | assumption | solve_by_elim)
  (s6 : 0 ≤ x3 → 0 < x2 → 0 ≤ x3 ∧ x3 < 24 := by intros; first | omega | assumption | solve_by_elim)
  (s7 : 0 ≤ x3 → 0 < x2 → ¬ (0 ≤ (mem 38 x3) ∧ (mem 38 x3) < (mem 23 1)) → 0 ≤ (x3 + 1) ∧ (x3 + 1) < 25 := by intros; first | omega | assumption | solve_by_elim)
  (s8 : 0 ≤ x3 → 0 < x2 → ¬ (0 ≤ (mem 38 x3) ∧ (mem 38 x3) < (mem 23 1)) → 0 ≤ x3 ∧ x3 < 25 := by intros; first | omega | assumption | solve_by_elim)
  (s9 : 0 ≤ x3 → 0 < x2 → ¬ (0 ≤ (mem 38 x3) ∧ (mem 38 x3) < (mem 23 1)) → R64 ((mem 42 (x3 + 1)) + 0) := by intros; first | omega | assumption | solve_by_elim)
  (s10 : 0 ≤ x3 → 0 < x2 → (0 ≤ (mem 38 x3) ∧ (mem 38 x3) < (mem 23 1)) → 0 ≤ (x3 + 1) ∧ (x3 + 1) < 25 := by intros; first | omega | assumption | solve_by_elim)
  (s11 : 0 ≤ x3 → 0 < x2 → (0 ≤ (mem 38 x3) ∧ (mem 38 x3) < (mem 23 1)) → 0 ≤ ((mem 38 x3) + 1) ∧ ((mem 38 x3) + 1) < 25 := by intros; first | omega | assumption | solve_by_elim)
  (s12 : 0 ≤ x3 → 0 < x2 → (0 ≤ (mem 38 x3) ∧ (mem 38 x3) < (mem 23 1)) → 0 ≤ x3 ∧ x3 < 25 := by intros; first | omega | assumption | solve_by_elim)
  (s13 : 0 ≤ x3 → 0 < x2 → (0 ≤ (mem 38 x3) ∧ (mem 38 x3) < (mem 23 1)) → R64 ((mem 42 (x3 + 1)) + (mem 41 ((mem 38 x3) + 1))) := by intros; first | omega | assumption | solve_by_elim)
  : mmT bX4_rowsWith d 0 0 (mQ 0 P) 49 [(2, 35), (0, x1), (0, x2), (0, x3), (9, 0)] [] mS mem := by
  refine st_iload_n (i := 3) rfl rfl dX4_rowsWith_49 ?_
  refine sr_if_lt 131 s1 (by decide) dX4_rowsWith_50 (fun h1 => ?_) (fun h1 => ?_)
  · have h1 : x3 < 0 := by omega
    refine st_iinc (y := (x2 + 1)) (by decide) (i := 2) rfl rfl (lc' := [(2, 35), (0, x1), (0, (x2 + 1)), (0, x3), (9, 0)]) rfl dX4_rowsWith_131 ?_
    refine st_goto 2 (by decide) dX4_rowsWith_134 ?_
    exact st_locals [(2, 35), (0, x1), (0, (x2 + 1)), (9, 0), (9, 0)] ⟨Or.inr rfl, Or.inr rfl, Or.inr rfl, Or.inl rfl, Or.inl rfl, trivial⟩ (k1 h1)
  · have h1 : 0 ≤ x3 := by omega
    refine st_iload_n (i := 2) rfl rfl dX4_rowsWith_53 ?_
    refine sr_if_le 77 (s2 h1) (by decide) dX4_rowsWith_54 (fun h2 => ?_) (fun h2 => ?_)
    · have h2 : x2 ≤ 0 := by omega
      refine st_iconst dX4_rowsWith_77 ?_
      refine st_istore (by decide) (lc' := [(2, 35), (0, x1), (0, x2), (0, x3), (0, 0)]) rfl dX4_rowsWith_78 ?_
      refine st_aload_n (i := 0) rfl (t := 0) rfl (by decide) dX4_rowsWith_80 ?_
      refine so_getA 35 4 fr_X4_23_4 rfl sh_35 fx_35_4 dX4_rowsWith_81 ?_
      refine st_iload_n (i := 2) rfl rfl dX4_rowsWith_84 ?_
      refine so_aald (v := 42) 39 (by decide) rfl sh_39 (by decide) (by omega) (fun hfx => by rw [oi_0]; exact hfx _ fx_39_2) dX4_rowsWith_85 ?_
      refine st_iload_n (i := 3) rfl rfl dX4_rowsWith_86 ?_
      refine st_aload_n (i := 0) rfl (t := 0) rfl (by decide) dX4_rowsWith_87 ?_
      refine so_getA 35 4 fr_X4_23_4 rfl sh_35 fx_35_4 dX4_rowsWith_88 ?_
      refine st_iload_n (i := 2) rfl rfl dX4_rowsWith_91 ?_
      refine so_aald (v := 42) 39 (by decide) rfl sh_39 (by decide) (by omega) (fun hfx => by rw [oi_0]; exact hfx _ fx_39_2) dX4_rowsWith_92 ?_
      refine st_iload_n (i := 3) rfl rfl dX4_rowsWith_93 ?_
      refine st_iconst dX4_rowsWith_94 ?_
      refine st_iadd dX4_rowsWith_95 ?_
      refine so_lald (v := (mem 42 (x3 + 1))) 42 rfl sh_42 (by decide) (s3 h1 h2) rfl dX4_rowsWith_96 (fun r1 => ?_)
      refine st_iload rfl dX4_rowsWith_97 ?_
      refine sr_if_eq 122 ⟨by decide, by decide⟩ (by decide) dX4_rowsWith_99 (fun h => ?_) (fun h => ?_)
      rotate_left
      · exact absurd h (by decide)
      refine st_lconst (v := 0) rfl dX4_rowsWith_122 ?_
      refine st_ladd dX4_rowsWith_123 ?_
      refine so_last 42 fr_42 rfl sh_42 (by decide) (s4 h1 h2) (s5 h1 h2) dX4_rowsWith_124 ?_
      refine st_iinc (y := (x3 + (-1))) (by decide) (i := 3) rfl rfl (lc' := [(2, 35), (0, x1), (0, x2), (0, (x3 + (-1))), (0, 0)]) rfl dX4_rowsWith_125 ?_
      refine st_goto 49 (by decide) dX4_rowsWith_128 ?_
      exact st_locals [(2, 35), (0, x1), (0, x2), (0, (x3 + (-1))), (9, 0)] ⟨Or.inr rfl, Or.inr rfl, Or.inr rfl, Or.inr rfl, Or.inl rfl, trivial⟩ (k2 h1 h2)
    · have h2 : 0 < x2 := by omega
      refine st_aload_n (i := 0) rfl (t := 0) rfl (by decide) dX4_rowsWith_57 ?_
      refine so_getA 35 0 fr_X4_26_4 rfl sh_35 fx_35_0 dX4_rowsWith_58 ?_
      refine st_aload_n (i := 0) rfl (t := 0) rfl (by decide) dX4_rowsWith_61 ?_
      refine so_getA 35 3 fr_X4_18_4 rfl sh_35 fx_35_3 dX4_rowsWith_62 ?_
      refine st_iload_n (i := 3) rfl rfl dX4_rowsWith_65 ?_
      refine so_iald (v := (mem 38 x3)) 38 rfl sh_38 (by decide) (s6 h1 h2) rfl dX4_rowsWith_66 (fun r2 => ?_)
      refine st_callV (kc2 := 0) (ks2 := 0) (av := [(0, (mem 38 x3))]) 23 8 mr_X4_61 ok_X8_has (c_X8_has mem (mem 38 x3) (r2)) rfl sh_23 ⟨_, rfl, rfl, by decide⟩ rfl rfl hd2 (Nat.le_refl 0) (Nat.le_refl 0) (Nat.le_of_ble_eq_true rfl) dX4_rowsWith_67 (mQ.elim fun v1 m1 hp => ?_)
      obtain ⟨hpv, hpm⟩ := hp
      subst hpv
      have hpm := hpm.symm
      subst hpm
      refine so_ifeqB 77 (by decide) dX4_rowsWith_70 (fun h3 => ?_) (fun h3 => ?_)
      · have h3 : ¬ (0 ≤ (mem 38 x3) ∧ (mem 38 x3) < (mem 23 1)) := h3
        refine st_iconst dX4_rowsWith_77 ?_
        refine st_istore (by decide) (lc' := [(2, 35), (0, x1), (0, x2), (0, x3), (0, 0)]) rfl dX4_rowsWith_78 ?_
        refine st_aload_n (i := 0) rfl (t := 0) rfl (by decide) dX4_rowsWith_80 ?_
        refine so_getA 35 4 fr_X4_23_4 rfl sh_35 fx_35_4 dX4_rowsWith_81 ?_
        refine st_iload_n (i := 2) rfl rfl dX4_rowsWith_84 ?_
        refine so_aald (v := 42) 39 (by decide) rfl sh_39 (by decide) (by omega) (fun hfx => by rw [oi_0]; exact hfx _ fx_39_2) dX4_rowsWith_85 ?_
        refine st_iload_n (i := 3) rfl rfl dX4_rowsWith_86 ?_
        refine st_aload_n (i := 0) rfl (t := 0) rfl (by decide) dX4_rowsWith_87 ?_
        refine so_getA 35 4 fr_X4_23_4 rfl sh_35 fx_35_4 dX4_rowsWith_88 ?_
        refine st_iload_n (i := 2) rfl rfl dX4_rowsWith_91 ?_
        refine so_aald (v := 42) 39 (by decide) rfl sh_39 (by decide) (by omega) (fun hfx => by rw [oi_0]; exact hfx _ fx_39_2) dX4_rowsWith_92 ?_
        refine st_iload_n (i := 3) rfl rfl dX4_rowsWith_93 ?_
        refine st_iconst dX4_rowsWith_94 ?_
        refine st_iadd dX4_rowsWith_95 ?_
        refine so_lald (v := (mem 42 (x3 + 1))) 42 rfl sh_42 (by decide) (s7 h1 h2 h3) rfl dX4_rowsWith_96 (fun r3 => ?_)
        refine st_iload rfl dX4_rowsWith_97 ?_
        refine sr_if_eq 122 ⟨by decide, by decide⟩ (by decide) dX4_rowsWith_99 (fun h => ?_) (fun h => ?_)
        rotate_left
        · exact absurd h (by decide)
        refine st_lconst (v := 0) rfl dX4_rowsWith_122 ?_
        refine st_ladd dX4_rowsWith_123 ?_
        refine so_last 42 fr_42 rfl sh_42 (by decide) (s8 h1 h2 h3) (s9 h1 h2 h3) dX4_rowsWith_124 ?_
        refine st_iinc (y := (x3 + (-1))) (by decide) (i := 3) rfl rfl (lc' := [(2, 35), (0, x1), (0, x2), (0, (x3 + (-1))), (0, 0)]) rfl dX4_rowsWith_125 ?_
        refine st_goto 49 (by decide) dX4_rowsWith_128 ?_
        exact st_locals [(2, 35), (0, x1), (0, x2), (0, (x3 + (-1))), (9, 0)] ⟨Or.inr rfl, Or.inr rfl, Or.inr rfl, Or.inr rfl, Or.inl rfl, trivial⟩ (k3 h1 h2 h3)
      · have h3 : (0 ≤ (mem 38 x3) ∧ (mem 38 x3) < (mem 23 1)) := h3
        refine st_iconst dX4_rowsWith_73 ?_
        refine st_goto 78 (by decide) dX4_rowsWith_74 ?_
        refine st_istore (by decide) (lc' := [(2, 35), (0, x1), (0, x2), (0, x3), (0, 1)]) rfl dX4_rowsWith_78 ?_
        refine st_aload_n (i := 0) rfl (t := 0) rfl (by decide) dX4_rowsWith_80 ?_
        refine so_getA 35 4 fr_X4_23_4 rfl sh_35 fx_35_4 dX4_rowsWith_81 ?_
        refine st_iload_n (i := 2) rfl rfl dX4_rowsWith_84 ?_
        refine so_aald (v := 42) 39 (by decide) rfl sh_39 (by decide) (by omega) (fun hfx => by rw [oi_0]; exact hfx _ fx_39_2) dX4_rowsWith_85 ?_
        refine st_iload_n (i := 3) rfl rfl dX4_rowsWith_86 ?_
        refine st_aload_n (i := 0) rfl (t := 0) rfl (by decide) dX4_rowsWith_87 ?_
        refine so_getA 35 4 fr_X4_23_4 rfl sh_35 fx_35_4 dX4_rowsWith_88 ?_
        refine st_iload_n (i := 2) rfl rfl dX4_rowsWith_91 ?_
        refine so_aald (v := 42) 39 (by decide) rfl sh_39 (by decide) (by omega) (fun hfx => by rw [oi_0]; exact hfx _ fx_39_2) dX4_rowsWith_92 ?_
        refine st_iload_n (i := 3) rfl rfl dX4_rowsWith_93 ?_
        refine st_iconst dX4_rowsWith_94 ?_
        refine st_iadd dX4_rowsWith_95 ?_
        refine so_lald (v := (mem 42 (x3 + 1))) 42 rfl sh_42 (by decide) (s10 h1 h2 h3) rfl dX4_rowsWith_96 (fun r4 => ?_)
        refine st_iload rfl dX4_rowsWith_97 ?_
        refine sr_if_eq 122 ⟨by decide, by decide⟩ (by decide) dX4_rowsWith_99 (fun h => ?_) (fun h => ?_)
        · exact absurd h (by decide)
        refine st_aload_n (i := 0) rfl (t := 0) rfl (by decide) dX4_rowsWith_102 ?_
        refine so_getA 35 4 fr_X4_23_4 rfl sh_35 fx_35_4 dX4_rowsWith_103 ?_
        refine st_iload_n (i := 2) rfl rfl dX4_rowsWith_106 ?_
        refine st_iconst dX4_rowsWith_107 ?_
        refine st_isub dX4_rowsWith_108 ?_
        refine so_aald (v := 41) 39 (by decide) rfl sh_39 (by decide) (by omega) (fun hfx => by rw [oi_1]; exact hfx _ fx_39_1) dX4_rowsWith_109 ?_
        refine st_aload_n (i := 0) rfl (t := 0) rfl (by decide) dX4_rowsWith_110 ?_
        refine so_getA 35 3 fr_X4_18_4 rfl sh_35 fx_35_3 dX4_rowsWith_111 ?_
        refine st_iload_n (i := 3) rfl rfl dX4_rowsWith_114 ?_
        refine so_iald (v := (mem 38 x3)) 38 rfl sh_38 (by decide) (s6 h1 h2) rfl dX4_rowsWith_115 (fun r5 => ?_)
        refine st_iconst dX4_rowsWith_116 ?_
        refine st_iadd dX4_rowsWith_117 ?_
        refine so_lald (v := (mem 41 ((mem 38 x3) + 1))) 41 rfl sh_41 (by decide) (s11 h1 h2 h3) rfl dX4_rowsWith_118 (fun r6 => ?_)
        refine st_goto 123 (by decide) dX4_rowsWith_119 ?_
        refine st_ladd dX4_rowsWith_123 ?_
        refine so_last 42 fr_42 rfl sh_42 (by decide) (s12 h1 h2 h3) (s13 h1 h2 h3) dX4_rowsWith_124 ?_
        refine st_iinc (y := (x3 + (-1))) (by decide) (i := 3) rfl rfl (lc' := [(2, 35), (0, x1), (0, x2), (0, (x3 + (-1))), (0, 1)]) rfl dX4_rowsWith_125 ?_
        refine st_goto 49 (by decide) dX4_rowsWith_128 ?_
        exact st_locals [(2, 35), (0, x1), (0, x2), (0, (x3 + (-1))), (9, 0)] ⟨Or.inr rfl, Or.inr rfl, Or.inr rfl, Or.inr rfl, Or.inl rfl, trivial⟩ (k4 h1 h2 h3)
theorem bk_X4_rowsWith_2_137 {d : Nat} {P : Int → mmM → Prop} {mem : mmM} {x1 : Int}
  (oi_0 : x1 = 2)
  (q1 : x1 < 0 → P (-1) mem)
  (q2 : 0 ≤ x1 → 7 ≤ x1 → P (-1) mem)
  (q3 : 0 ≤ x1 → x1 < 7 → P (min 1000000000 (mem 42 0)) mem)
  (hd1 : 1 ≤ d := by omega)
  (s1 : R32 x1 := by intros; first | omega | assumption | solve_by_elim)
  : mmT bX4_rowsWith d 0 0 (mQ 0 P) 137 [(2, 35), (0, x1), (9, 0), (9, 0), (9, 0)] [] mS mem := by
  refine st_iload_n (i := 1) rfl rfl dX4_rowsWith_137 ?_
  refine sr_if_lt 168 s1 (by decide) dX4_rowsWith_138 (fun h1 => ?_) (fun h1 => ?_)
  · have h1 : x1 < 0 := by omega
    refine st_iconst dX4_rowsWith_168 ?_
    exact st_ireturn rfl dX4_rowsWith_169 (mQ.ret (q1 h1))
  · have h1 : 0 ≤ x1 := by omega
    refine st_iload_n (i := 1) rfl rfl dX4_rowsWith_141 ?_
    refine st_aload_n (i := 0) rfl (t := 0) rfl (by decide) dX4_rowsWith_142 ?_
    refine so_getA 35 4 fr_X4_23_4 rfl sh_35 fx_35_4 dX4_rowsWith_143 ?_
    refine so_alen (v := 7) 39 rfl sh_39 (by decide) rfl dX4_rowsWith_146 ?_
    refine sr_icmp_ge 168 s1 ⟨by decide, by decide⟩ (by decide) dX4_rowsWith_147 (fun h2 => ?_) (fun h2 => ?_)
    · have h2 : 7 ≤ x1 := by omega
      refine st_iconst dX4_rowsWith_168 ?_
      exact st_ireturn rfl dX4_rowsWith_169 (mQ.ret (q2 h1 h2))
    · have h2 : x1 < 7 := by omega
      refine st_ldc2 cw_X4_65 dX4_rowsWith_150 ?_
      refine st_aload_n (i := 0) rfl (t := 0) rfl (by decide) dX4_rowsWith_153 ?_
      refine so_getA 35 4 fr_X4_23_4 rfl sh_35 fx_35_4 dX4_rowsWith_154 ?_
      refine st_iload_n (i := 1) rfl rfl dX4_rowsWith_157 ?_
      refine so_aald (v := 42) 39 (by decide) rfl sh_39 (by decide) (by omega) (fun hfx => by rw [oi_0]; exact hfx _ fx_39_2) dX4_rowsWith_158 ?_
      refine st_iconst dX4_rowsWith_159 ?_
      refine so_lald (v := (mem 42 0)) 42 rfl sh_42 (by decide) ⟨by decide, by decide⟩ rfl dX4_rowsWith_160 (fun r1 => ?_)
      refine sr_mminl ⟨by decide, by decide⟩ r1 mr_X4_67 ms_minj mi_Math mc_minj hd1 (Nat.le_of_ble_eq_true rfl) dX4_rowsWith_161 ?_
      refine st_l2i dX4_rowsWith_164 ?_
      refine st_goto 169 (by decide) dX4_rowsWith_165 ?_
      exact st_ireturn rfl dX4_rowsWith_169 (mQ.ret (q3 h1 h2))
theorem rX_ex_2 (mem m : mmM) (x1 : Int) (hx : x1 = 2) (h : rwOK mem 3 m) (hn : 0 ≤ mem 23 1) : mmT bX4_rowsWith 3 0 0 (mQ 0 (rwQ mem x1)) 137 [(2, 35), (0, x1), (9, 0), (9, 0), (9, 0)] [] mS m := by
  refine bk_X4_rowsWith_2_137 hx (fun g => by omega) (fun g g2 => by omega) (fun g g2 => ⟨?_, h.1⟩)
  have := h.2 2 (by decide) 0 (by omega) hn
  rw [hx]
  exact congrArg (min 1000000000) this
theorem rX_in_2 (mem m : mmM) (x1 : Int) (h : rwOK mem 2 m) (hn : 0 ≤ mem 23 1 ∧ mem 23 1 ≤ 24) (hx : R32 x1) (nx : ∀ m', rwOK mem 3 m' → mmT bX4_rowsWith 3 0 0 (mQ 0 (rwQ mem x1)) 2 [(2, 35), (0, x1), (0, 3), (9, 0), (9, 0)] [] mS m') : mmT bX4_rowsWith 3 0 0 (mQ 0 (rwQ mem x1)) 16 [(2, 35), (0, x1), (0, 2), (9, 0), (9, 0)] [] mS m := by
  have e23 : m 23 = mem 23 := h.1 23 (by omega)
  have b0 : ∀ s, 0 ≤ s → 0 ≤ rwR (mem 23 1) (mem 38) 2 s ∧ rwR (mem 23 1) (mem 38) 2 s ≤ 191102976 := fun s s0 => by
    have := rwR_bnd (to := mem 38) hn.2 2 s0
    have := p24_6 (j := 2) (by decide)
    omega
  have b1 : ∀ s, 0 ≤ s → 0 ≤ rwR (mem 23 1) (mem 38) 1 s ∧ rwR (mem 23 1) (mem 38) 1 s ≤ 191102976 := fun s s0 => by
    have := rwR_bnd (to := mem 38) hn.2 1 s0
    have := p24_6 (j := 1) (by decide)
    omega
  refine bk_X4_rowsWith_2_16 rfl (fun g => ?_) (fun g => absurd g (by decide)) (s2 := fun _ => by rw [e23]; omega) (s3 := fun g => absurd g (by decide))
  have key : ∀ (t : Nat) (m' : mmM), (t : Int) ≤ mem 23 1 → rwFr mem m' → (∀ j, j < 2 → ∀ s, 0 ≤ s → s ≤ mem 23 1 → m' (40 + j) s = rwR (mem 23 1) (mem 38) j s) → (∀ s, (t : Int) ≤ s → s ≤ mem 23 1 → m' 42 s = rwR (mem 23 1) (mem 38) 2 s) → mmT bX4_rowsWith 3 0 0 (mQ 0 (rwQ mem x1)) 49 [(2, 35), (0, x1), (0, 2), (0, (t : Int) - 1), (9, 0)] [] mS m' := by
    intro t
    induction t with
    | zero =>
      intro m' ht f q r
      refine bk_X4_rowsWith_2_49 rfl rfl (fun g => nx m' ⟨f, fun j hj s s0 s1 => ?_⟩) (fun g => by omega) (fun g => by omega) (fun g => by omega) (s3 := fun g => by omega) (s4 := fun g => by omega) (s5 := fun g => by omega) (s6 := fun g => by omega) (s7 := fun g => by omega) (s8 := fun g => by omega) (s9 := fun g => by omega) (s10 := fun g => by omega) (s11 := fun g => by omega) (s12 := fun g => by omega) (s13 := fun g => by omega)
      rcases Nat.lt_or_ge j 2 with z | z
      · exact q j z s s0 s1
      · rw [show j = 2 by omega]
        exact r s (by omega) s1
    | succ t ih =>
      intro m' ht f q r
      have e38 : m' 38 = mem 38 := f 38 (by omega)
      have e23' : m' 23 = mem 23 := f 23 (by omega)
      have es : ((t + 1 : Nat) : Int) - 1 = (t : Int) := by omega
      rw [es]
      have e1 : m' 42 ((t : Int) + 1) = rwR (mem 23 1) (mem 38) 2 ((t : Int) + 1) := r _ (by omega) (by omega)
      have st := rwR_step (mem 23 1) (mem 38) 1 (s := (t : Int)) (by omega)
      have c1 := b0 ((t : Int) + 1) (by omega)
      have nxt : ∀ v, v = rwR (mem 23 1) (mem 38) 2 (t : Int) → mmT bX4_rowsWith 3 0 0 (mQ 0 (rwQ mem x1)) 49 [(2, 35), (0, x1), (0, 2), (0, (t : Int) + (-1)), (9, 0)] [] mS (mset m' 42 (t : Int) v) := by
        intro v hv
        rw [show (t : Int) + (-1) = (t : Int) - 1 by omega]
        refine ih _ (by omega) (fun a ha => by rw [mset_ne (by omega)]; exact f a ha) (fun j hj s s0 s1 => by rw [mset_ne (by omega)]; exact q j hj s s0 s1) (fun s s0 s1 => ?_)
        rw [mset_at]
        split
        · rename_i e
          rw [hv, e]
        · exact r s (by omega) s1
      have e2 : (0 ≤ mem 38 (t : Int) ∧ mem 38 (t : Int) < mem 23 1) → m' 41 (mem 38 (t : Int) + 1) = rwR (mem 23 1) (mem 38) 1 (mem 38 (t : Int) + 1) := fun z => q 1 (by decide) _ (by omega) (by omega)
      refine bk_X4_rowsWith_2_49 rfl rfl (fun g => by omega) (fun g g2 => absurd g2 (by decide)) (fun g g2 g3 => nxt _ ?_) (fun g g2 g3 => nxt _ ?_) (s3 := fun g g2 => absurd g2 (by decide)) (s4 := fun g g2 => absurd g2 (by decide)) (s5 := fun g g2 => absurd g2 (by decide)) (s6 := fun g g2 => by omega) (s7 := fun g g2 _ => by omega) (s8 := fun g g2 _ => by omega) (s9 := fun g g2 _ => by rw [e1]; omega) (s10 := fun g g2 _ => by omega) (s11 := fun g g2 z => by rw [e38, e23'] at z; rw [e38]; omega) (s12 := fun g g2 _ => by omega) (s13 := fun g g2 z => by
        rw [e38, e23'] at z
        have := b1 (mem 38 (t : Int) + 1) (by omega)
        rw [e38, e1, e2 z]
        omega)
      · rw [e38, e23'] at g3
        rw [e1, st, if_neg g3]
      · rw [e38, e23'] at g3
        rw [e38, e1, e2 g3, st, if_pos g3]
  have k := key (mem 23 1).toNat (mset m 42 (m 23 1) 0) (by omega) (fun a ha => by rw [mset_ne (by omega)]; exact h.1 a ha) (fun j hj s s0 s1 => by rw [mset_ne (by omega)]; exact h.2 j hj s s0 s1) (fun s s0 s1 => by rw [show s = mem 23 1 by omega, mset_at, e23, if_pos rfl, rwR_end, if_neg (by decide)])
  rw [show (((mem 23 1).toNat : Nat) : Int) = mem 23 1 by omega] at k
  rw [show m 23 1 - 1 = mem 23 1 - 1 by rw [e23]]
  exact k
theorem cn_X4_rowsWith_3 {d : Nat} {P : Int → mmM → Prop} {mem : mmM} {x1 : Int} (h : mmT bX4_rowsWith d 0 0 (mQ 0 P) 0 [(2, 35), (0, x1), (9, 0), (9, 0), (9, 0)] [] mS mem) : con 0 bX4_rowsWith d [(2, 35), (0, x1)] mem P := mmC_of [(2, 35), (0, x1), (9, 0), (9, 0), (9, 0)] ok_X4_rowsWith.2.2.2.2 rfl (Nat.le_of_ble_eq_true rfl) h
theorem bk_X4_rowsWith_3_0 {d : Nat} {P : Int → mmM → Prop} {mem : mmM} {x1 : Int}
  (k1 : mmT bX4_rowsWith d 0 0 (mQ 0 P) 2 [(2, 35), (0, x1), (0, 0), (9, 0), (9, 0)] [] mS mem)
  : mmT bX4_rowsWith d 0 0 (mQ 0 P) 0 [(2, 35), (0, x1), (9, 0), (9, 0), (9, 0)] [] mS mem := by
  refine st_iconst dX4_rowsWith_0 ?_
  refine st_istore_n (i := 2) rfl (by decide) (lc' := [(2, 35), (0, x1), (0, 0), (9, 0), (9, 0)]) rfl dX4_rowsWith_1 ?_
  exact st_locals [(2, 35), (0, x1), (0, 0), (9, 0), (9, 0)] ⟨Or.inr rfl, Or.inr rfl, Or.inr rfl, Or.inl rfl, Or.inl rfl, trivial⟩ k1
theorem bk_X4_rowsWith_3_2 {d : Nat} {P : Int → mmM → Prop} {mem : mmM} {x1 x2 : Int}
  (k1 : x1 < x2 → mmT bX4_rowsWith d 0 0 (mQ 0 P) 137 [(2, 35), (0, x1), (9, 0), (9, 0), (9, 0)] [] mS mem)
  (k2 : x2 ≤ x1 → 7 ≤ x2 → mmT bX4_rowsWith d 0 0 (mQ 0 P) 137 [(2, 35), (0, x1), (9, 0), (9, 0), (9, 0)] [] mS mem)
  (k3 : x2 ≤ x1 → x2 < 7 → mmT bX4_rowsWith d 0 0 (mQ 0 P) 16 [(2, 35), (0, x1), (0, x2), (9, 0), (9, 0)] [] mS mem)
  (s1 : R32 x2 := by intros; first | omega | assumption | solve_by_elim)
  (s2 : R32 x1 := by intros; first | omega | assumption | solve_by_elim)
  : mmT bX4_rowsWith d 0 0 (mQ 0 P) 2 [(2, 35), (0, x1), (0, x2), (9, 0), (9, 0)] [] mS mem := by
  refine st_iload_n (i := 2) rfl rfl dX4_rowsWith_2 ?_
  refine st_iload_n (i := 1) rfl rfl dX4_rowsWith_3 ?_
  refine sr_icmp_gt 137 s1 s2 (by decide) dX4_rowsWith_4 (fun h1 => ?_) (fun h1 => ?_)
  · have h1 : x1 < x2 := by omega
    exact st_locals [(2, 35), (0, x1), (9, 0), (9, 0), (9, 0)] ⟨Or.inr rfl, Or.inr rfl, Or.inl rfl, Or.inl rfl, Or.inl rfl, trivial⟩ (k1 h1)
  · have h1 : x2 ≤ x1 := by omega
    refine st_iload_n (i := 2) rfl rfl dX4_rowsWith_7 ?_
    refine st_aload_n (i := 0) rfl (t := 0) rfl (by decide) dX4_rowsWith_8 ?_
    refine so_getA 35 4 fr_X4_23_4 rfl sh_35 fx_35_4 dX4_rowsWith_9 ?_
    refine so_alen (v := 7) 39 rfl sh_39 (by decide) rfl dX4_rowsWith_12 ?_
    refine sr_icmp_ge 137 s1 ⟨by decide, by decide⟩ (by decide) dX4_rowsWith_13 (fun h2 => ?_) (fun h2 => ?_)
    · have h2 : 7 ≤ x2 := by omega
      exact st_locals [(2, 35), (0, x1), (9, 0), (9, 0), (9, 0)] ⟨Or.inr rfl, Or.inr rfl, Or.inl rfl, Or.inl rfl, Or.inl rfl, trivial⟩ (k2 h1 h2)
    · have h2 : x2 < 7 := by omega
      exact st_locals [(2, 35), (0, x1), (0, x2), (9, 0), (9, 0)] ⟨Or.inr rfl, Or.inr rfl, Or.inr rfl, Or.inl rfl, Or.inl rfl, trivial⟩ (k3 h1 h2)
theorem bk_X4_rowsWith_3_16 {d : Nat} {P : Int → mmM → Prop} {mem : mmM} {x1 x2 : Int}
  (oi_0 : x2 = 3)
  (k1 : ¬ x2 = 0 → mmT bX4_rowsWith d 0 0 (mQ 0 P) 49 [(2, 35), (0, x1), (0, x2), (0, ((mem 23 1) - 1)), (9, 0)] [] mS (mset mem 43 (mem 23 1) 0))
  (k2 : x2 = 0 → mmT bX4_rowsWith d 0 0 (mQ 0 P) 49 [(2, 35), (0, x1), (0, x2), (0, ((mem 23 1) - 1)), (9, 0)] [] mS (mset mem 43 (mem 23 1) 1))
  (s1 : R32 x2 := by intros; first | omega | assumption | solve_by_elim)
  (s2 : ¬ x2 = 0 → 0 ≤ (mem 23 1) ∧ (mem 23 1) < 25 := by intros; first | omega | assumption | solve_by_elim)
  (s3 : x2 = 0 → 0 ≤ (mem 23 1) ∧ (mem 23 1) < 25 := by intros; first | omega | assumption | solve_by_elim)
  : mmT bX4_rowsWith d 0 0 (mQ 0 P) 16 [(2, 35), (0, x1), (0, x2), (9, 0), (9, 0)] [] mS mem := by
  refine st_aload_n (i := 0) rfl (t := 0) rfl (by decide) dX4_rowsWith_16 ?_
  refine so_getA 35 4 fr_X4_23_4 rfl sh_35 fx_35_4 dX4_rowsWith_17 ?_
  refine st_iload_n (i := 2) rfl rfl dX4_rowsWith_20 ?_
  refine so_aald (v := 43) 39 (by decide) rfl sh_39 (by decide) (by omega) (fun hfx => by rw [oi_0]; exact hfx _ fx_39_3) dX4_rowsWith_21 ?_
  refine st_aload_n (i := 0) rfl (t := 0) rfl (by decide) dX4_rowsWith_22 ?_
  refine so_getA 35 0 fr_X4_26_4 rfl sh_35 fx_35_0 dX4_rowsWith_23 ?_
  refine so_getI (v := (mem 23 1)) 23 1 fr_X4_36_8 rfl sh_23 rfl dX4_rowsWith_26 (fun r1 => ?_)
  refine st_iload_n (i := 2) rfl rfl dX4_rowsWith_29 ?_
  refine sr_if_ne 37 s1 (by decide) dX4_rowsWith_30 (fun h1 => ?_) (fun h1 => ?_)
  · have h1 : ¬ x2 = 0 := by omega
    refine st_lconst (v := 0) rfl dX4_rowsWith_37 ?_
    refine so_last 43 fr_43 rfl sh_43 (by decide) (s2 h1) ⟨by decide, by decide⟩ dX4_rowsWith_38 ?_
    refine st_aload_n (i := 0) rfl (t := 0) rfl (by decide) dX4_rowsWith_39 ?_
    refine so_getA 35 0 fr_X4_26_4 rfl sh_35 fx_35_0 dX4_rowsWith_40 ?_
    refine so_getI (v := (mem 23 1)) 23 1 fr_X4_36_8 rfl sh_23 rfl dX4_rowsWith_43 (fun r2 => ?_)
    refine st_iconst dX4_rowsWith_46 ?_
    refine st_isub dX4_rowsWith_47 ?_
    refine st_istore_n (i := 3) rfl (by decide) (lc' := [(2, 35), (0, x1), (0, x2), (0, ((mem 23 1) - 1)), (9, 0)]) rfl dX4_rowsWith_48 ?_
    exact st_locals [(2, 35), (0, x1), (0, x2), (0, ((mem 23 1) - 1)), (9, 0)] ⟨Or.inr rfl, Or.inr rfl, Or.inr rfl, Or.inr rfl, Or.inl rfl, trivial⟩ (k1 h1)
  · have h1 : x2 = 0 := by omega
    refine st_lconst (v := 1) rfl dX4_rowsWith_33 ?_
    refine st_goto 38 (by decide) dX4_rowsWith_34 ?_
    refine so_last 43 fr_43 rfl sh_43 (by decide) (s3 h1) ⟨by decide, by decide⟩ dX4_rowsWith_38 ?_
    refine st_aload_n (i := 0) rfl (t := 0) rfl (by decide) dX4_rowsWith_39 ?_
    refine so_getA 35 0 fr_X4_26_4 rfl sh_35 fx_35_0 dX4_rowsWith_40 ?_
    refine so_getI (v := (mem 23 1)) 23 1 fr_X4_36_8 rfl sh_23 rfl dX4_rowsWith_43 (fun r3 => ?_)
    refine st_iconst dX4_rowsWith_46 ?_
    refine st_isub dX4_rowsWith_47 ?_
    refine st_istore_n (i := 3) rfl (by decide) (lc' := [(2, 35), (0, x1), (0, x2), (0, ((mem 23 1) - 1)), (9, 0)]) rfl dX4_rowsWith_48 ?_
    exact st_locals [(2, 35), (0, x1), (0, x2), (0, ((mem 23 1) - 1)), (9, 0)] ⟨Or.inr rfl, Or.inr rfl, Or.inr rfl, Or.inr rfl, Or.inl rfl, trivial⟩ (k2 h1)
theorem bk_X4_rowsWith_3_49 {d : Nat} {P : Int → mmM → Prop} {mem : mmM} {x1 x2 x3 : Int}
  (oi_0 : x2 = 3)
  (oi_1 : (x2 - 1) = 2)
  (k1 : x3 < 0 → mmT bX4_rowsWith d 0 0 (mQ 0 P) 2 [(2, 35), (0, x1), (0, (x2 + 1)), (9, 0), (9, 0)] [] mS mem)
  (k2 : 0 ≤ x3 → x2 ≤ 0 → mmT bX4_rowsWith d 0 0 (mQ 0 P) 49 [(2, 35), (0, x1), (0, x2), (0, (x3 + (-1))), (9, 0)] [] mS (mset mem 43 x3 ((mem 43 (x3 + 1)) + 0)))
  (k3 : 0 ≤ x3 → 0 < x2 → ¬ (0 ≤ (mem 38 x3) ∧ (mem 38 x3) < (mem 23 1)) → mmT bX4_rowsWith d 0 0 (mQ 0 P) 49 [(2, 35), (0, x1), (0, x2), (0, (x3 + (-1))), (9, 0)] [] mS (mset mem 43 x3 ((mem 43 (x3 + 1)) + 0)))
  (k4 : 0 ≤ x3 → 0 < x2 → (0 ≤ (mem 38 x3) ∧ (mem 38 x3) < (mem 23 1)) → mmT bX4_rowsWith d 0 0 (mQ 0 P) 49 [(2, 35), (0, x1), (0, x2), (0, (x3 + (-1))), (9, 0)] [] mS (mset mem 43 x3 ((mem 43 (x3 + 1)) + (mem 42 ((mem 38 x3) + 1)))))
  (hd2 : 2 ≤ d := by omega)
  (s1 : R32 x3 := by intros; first | omega | assumption | solve_by_elim)
  (s2 : 0 ≤ x3 → R32 x2 := by intros; first | omega | assumption | solve_by_elim)
  (s3 : 0 ≤ x3 → x2 ≤ 0 → 0 ≤ (x3 + 1) ∧ (x3 + 1) < 25 := by intros; first | omega | assumption | solve_by_elim)
  (s4 : 0 ≤ x3 → x2 ≤ 0 → 0 ≤ x3 ∧ x3 < 25 := by intros; first | omega | assumption | solve_by_elim)
  (s5 : 0 ≤ x3 → x2 ≤ 0 → R64 ((mem 43 (x3 + 1)) + 0) := by intros; first | omega | assumption | solve_by_elim)
  (s6 : 0 ≤ x3 → 0 < x2 → 0 ≤ x3 ∧ x3 < 24 := by intros; first | omega | assumption | solve_by_elim)
  (s7 : 0 ≤ x3 → 0 < x2 → ¬ (0 ≤ (mem 38 x3) ∧ (mem 38 x3) < (mem 23 1)) → 0 ≤ (x3 + 1) ∧ (x3 + 1) < 25 := by intros; first | omega | assumption | solve_by_elim)
  (s8 : 0 ≤ x3 → 0 < x2 → ¬ (0 ≤ (mem 38 x3) ∧ (mem 38 x3) < (mem 23 1)) → 0 ≤ x3 ∧ x3 < 25 := by intros; first | omega | assumption | solve_by_elim)
  (s9 : 0 ≤ x3 → 0 < x2 → ¬ (0 ≤ (mem 38 x3) ∧ (mem 38 x3) < (mem 23 1)) → R64 ((mem 43 (x3 + 1)) + 0) := by intros; first | omega | assumption | solve_by_elim)
  (s10 : 0 ≤ x3 → 0 < x2 → (0 ≤ (mem 38 x3) ∧ (mem 38 x3) < (mem 23 1)) → 0 ≤ (x3 + 1) ∧ (x3 + 1) < 25 := by intros; first | omega | assumption | solve_by_elim)
  (s11 : 0 ≤ x3 → 0 < x2 → (0 ≤ (mem 38 x3) ∧ (mem 38 x3) < (mem 23 1)) → 0 ≤ ((mem 38 x3) + 1) ∧ ((mem 38 x3) + 1) < 25 := by intros; first | omega | assumption | solve_by_elim)
  (s12 : 0 ≤ x3 → 0 < x2 → (0 ≤ (mem 38 x3) ∧ (mem 38 x3) < (mem 23 1)) → 0 ≤ x3 ∧ x3 < 25 := by intros; first | omega | assumption | solve_by_elim)
  (s13 : 0 ≤ x3 → 0 < x2 → (0 ≤ (mem 38 x3) ∧ (mem 38 x3) < (mem 23 1)) → R64 ((mem 43 (x3 + 1)) + (mem 42 ((mem 38 x3) + 1))) := by intros; first | omega | assumption | solve_by_elim)
  : mmT bX4_rowsWith d 0 0 (mQ 0 P) 49 [(2, 35), (0, x1), (0, x2), (0, x3), (9, 0)] [] mS mem := by
  refine st_iload_n (i := 3) rfl rfl dX4_rowsWith_49 ?_
  refine sr_if_lt 131 s1 (by decide) dX4_rowsWith_50 (fun h1 => ?_) (fun h1 => ?_)
  · have h1 : x3 < 0 := by omega
    refine st_iinc (y := (x2 + 1)) (by decide) (i := 2) rfl rfl (lc' := [(2, 35), (0, x1), (0, (x2 + 1)), (0, x3), (9, 0)]) rfl dX4_rowsWith_131 ?_
    refine st_goto 2 (by decide) dX4_rowsWith_134 ?_
    exact st_locals [(2, 35), (0, x1), (0, (x2 + 1)), (9, 0), (9, 0)] ⟨Or.inr rfl, Or.inr rfl, Or.inr rfl, Or.inl rfl, Or.inl rfl, trivial⟩ (k1 h1)
  · have h1 : 0 ≤ x3 := by omega
    refine st_iload_n (i := 2) rfl rfl dX4_rowsWith_53 ?_
    refine sr_if_le 77 (s2 h1) (by decide) dX4_rowsWith_54 (fun h2 => ?_) (fun h2 => ?_)
    · have h2 : x2 ≤ 0 := by omega
      refine st_iconst dX4_rowsWith_77 ?_
      refine st_istore (by decide) (lc' := [(2, 35), (0, x1), (0, x2), (0, x3), (0, 0)]) rfl dX4_rowsWith_78 ?_
      refine st_aload_n (i := 0) rfl (t := 0) rfl (by decide) dX4_rowsWith_80 ?_
      refine so_getA 35 4 fr_X4_23_4 rfl sh_35 fx_35_4 dX4_rowsWith_81 ?_
      refine st_iload_n (i := 2) rfl rfl dX4_rowsWith_84 ?_
      refine so_aald (v := 43) 39 (by decide) rfl sh_39 (by decide) (by omega) (fun hfx => by rw [oi_0]; exact hfx _ fx_39_3) dX4_rowsWith_85 ?_
      refine st_iload_n (i := 3) rfl rfl dX4_rowsWith_86 ?_
      refine st_aload_n (i := 0) rfl (t := 0) rfl (by decide) dX4_rowsWith_87 ?_
      refine so_getA 35 4 fr_X4_23_4 rfl sh_35 fx_35_4 dX4_rowsWith_88 ?_
      refine st_iload_n (i := 2) rfl rfl dX4_rowsWith_91 ?_
      refine so_aald (v := 43) 39 (by decide) rfl sh_39 (by decide) (by omega) (fun hfx => by rw [oi_0]; exact hfx _ fx_39_3) dX4_rowsWith_92 ?_
      refine st_iload_n (i := 3) rfl rfl dX4_rowsWith_93 ?_
      refine st_iconst dX4_rowsWith_94 ?_
      refine st_iadd dX4_rowsWith_95 ?_
      refine so_lald (v := (mem 43 (x3 + 1))) 43 rfl sh_43 (by decide) (s3 h1 h2) rfl dX4_rowsWith_96 (fun r1 => ?_)
      refine st_iload rfl dX4_rowsWith_97 ?_
      refine sr_if_eq 122 ⟨by decide, by decide⟩ (by decide) dX4_rowsWith_99 (fun h => ?_) (fun h => ?_)
      rotate_left
      · exact absurd h (by decide)
      refine st_lconst (v := 0) rfl dX4_rowsWith_122 ?_
      refine st_ladd dX4_rowsWith_123 ?_
      refine so_last 43 fr_43 rfl sh_43 (by decide) (s4 h1 h2) (s5 h1 h2) dX4_rowsWith_124 ?_
      refine st_iinc (y := (x3 + (-1))) (by decide) (i := 3) rfl rfl (lc' := [(2, 35), (0, x1), (0, x2), (0, (x3 + (-1))), (0, 0)]) rfl dX4_rowsWith_125 ?_
      refine st_goto 49 (by decide) dX4_rowsWith_128 ?_
      exact st_locals [(2, 35), (0, x1), (0, x2), (0, (x3 + (-1))), (9, 0)] ⟨Or.inr rfl, Or.inr rfl, Or.inr rfl, Or.inr rfl, Or.inl rfl, trivial⟩ (k2 h1 h2)
    · have h2 : 0 < x2 := by omega
      refine st_aload_n (i := 0) rfl (t := 0) rfl (by decide) dX4_rowsWith_57 ?_
      refine so_getA 35 0 fr_X4_26_4 rfl sh_35 fx_35_0 dX4_rowsWith_58 ?_
      refine st_aload_n (i := 0) rfl (t := 0) rfl (by decide) dX4_rowsWith_61 ?_
      refine so_getA 35 3 fr_X4_18_4 rfl sh_35 fx_35_3 dX4_rowsWith_62 ?_
      refine st_iload_n (i := 3) rfl rfl dX4_rowsWith_65 ?_
      refine so_iald (v := (mem 38 x3)) 38 rfl sh_38 (by decide) (s6 h1 h2) rfl dX4_rowsWith_66 (fun r2 => ?_)
      refine st_callV (kc2 := 0) (ks2 := 0) (av := [(0, (mem 38 x3))]) 23 8 mr_X4_61 ok_X8_has (c_X8_has mem (mem 38 x3) (r2)) rfl sh_23 ⟨_, rfl, rfl, by decide⟩ rfl rfl hd2 (Nat.le_refl 0) (Nat.le_refl 0) (Nat.le_of_ble_eq_true rfl) dX4_rowsWith_67 (mQ.elim fun v1 m1 hp => ?_)
      obtain ⟨hpv, hpm⟩ := hp
      subst hpv
      have hpm := hpm.symm
      subst hpm
      refine so_ifeqB 77 (by decide) dX4_rowsWith_70 (fun h3 => ?_) (fun h3 => ?_)
      · have h3 : ¬ (0 ≤ (mem 38 x3) ∧ (mem 38 x3) < (mem 23 1)) := h3
        refine st_iconst dX4_rowsWith_77 ?_
        refine st_istore (by decide) (lc' := [(2, 35), (0, x1), (0, x2), (0, x3), (0, 0)]) rfl dX4_rowsWith_78 ?_
        refine st_aload_n (i := 0) rfl (t := 0) rfl (by decide) dX4_rowsWith_80 ?_
        refine so_getA 35 4 fr_X4_23_4 rfl sh_35 fx_35_4 dX4_rowsWith_81 ?_
        refine st_iload_n (i := 2) rfl rfl dX4_rowsWith_84 ?_
        refine so_aald (v := 43) 39 (by decide) rfl sh_39 (by decide) (by omega) (fun hfx => by rw [oi_0]; exact hfx _ fx_39_3) dX4_rowsWith_85 ?_
        refine st_iload_n (i := 3) rfl rfl dX4_rowsWith_86 ?_
        refine st_aload_n (i := 0) rfl (t := 0) rfl (by decide) dX4_rowsWith_87 ?_
        refine so_getA 35 4 fr_X4_23_4 rfl sh_35 fx_35_4 dX4_rowsWith_88 ?_
        refine st_iload_n (i := 2) rfl rfl dX4_rowsWith_91 ?_
        refine so_aald (v := 43) 39 (by decide) rfl sh_39 (by decide) (by omega) (fun hfx => by rw [oi_0]; exact hfx _ fx_39_3) dX4_rowsWith_92 ?_
        refine st_iload_n (i := 3) rfl rfl dX4_rowsWith_93 ?_
        refine st_iconst dX4_rowsWith_94 ?_
        refine st_iadd dX4_rowsWith_95 ?_
        refine so_lald (v := (mem 43 (x3 + 1))) 43 rfl sh_43 (by decide) (s7 h1 h2 h3) rfl dX4_rowsWith_96 (fun r3 => ?_)
        refine st_iload rfl dX4_rowsWith_97 ?_
        refine sr_if_eq 122 ⟨by decide, by decide⟩ (by decide) dX4_rowsWith_99 (fun h => ?_) (fun h => ?_)
        rotate_left
        · exact absurd h (by decide)
        refine st_lconst (v := 0) rfl dX4_rowsWith_122 ?_
        refine st_ladd dX4_rowsWith_123 ?_
        refine so_last 43 fr_43 rfl sh_43 (by decide) (s8 h1 h2 h3) (s9 h1 h2 h3) dX4_rowsWith_124 ?_
        refine st_iinc (y := (x3 + (-1))) (by decide) (i := 3) rfl rfl (lc' := [(2, 35), (0, x1), (0, x2), (0, (x3 + (-1))), (0, 0)]) rfl dX4_rowsWith_125 ?_
        refine st_goto 49 (by decide) dX4_rowsWith_128 ?_
        exact st_locals [(2, 35), (0, x1), (0, x2), (0, (x3 + (-1))), (9, 0)] ⟨Or.inr rfl, Or.inr rfl, Or.inr rfl, Or.inr rfl, Or.inl rfl, trivial⟩ (k3 h1 h2 h3)
      · have h3 : (0 ≤ (mem 38 x3) ∧ (mem 38 x3) < (mem 23 1)) := h3
        refine st_iconst dX4_rowsWith_73 ?_
        refine st_goto 78 (by decide) dX4_rowsWith_74 ?_
        refine st_istore (by decide) (lc' := [(2, 35), (0, x1), (0, x2), (0, x3), (0, 1)]) rfl dX4_rowsWith_78 ?_
        refine st_aload_n (i := 0) rfl (t := 0) rfl (by decide) dX4_rowsWith_80 ?_
        refine so_getA 35 4 fr_X4_23_4 rfl sh_35 fx_35_4 dX4_rowsWith_81 ?_
        refine st_iload_n (i := 2) rfl rfl dX4_rowsWith_84 ?_
        refine so_aald (v := 43) 39 (by decide) rfl sh_39 (by decide) (by omega) (fun hfx => by rw [oi_0]; exact hfx _ fx_39_3) dX4_rowsWith_85 ?_
        refine st_iload_n (i := 3) rfl rfl dX4_rowsWith_86 ?_
        refine st_aload_n (i := 0) rfl (t := 0) rfl (by decide) dX4_rowsWith_87 ?_
        refine so_getA 35 4 fr_X4_23_4 rfl sh_35 fx_35_4 dX4_rowsWith_88 ?_
        refine st_iload_n (i := 2) rfl rfl dX4_rowsWith_91 ?_
        refine so_aald (v := 43) 39 (by decide) rfl sh_39 (by decide) (by omega) (fun hfx => by rw [oi_0]; exact hfx _ fx_39_3) dX4_rowsWith_92 ?_
        refine st_iload_n (i := 3) rfl rfl dX4_rowsWith_93 ?_
        refine st_iconst dX4_rowsWith_94 ?_
        refine st_iadd dX4_rowsWith_95 ?_
        refine so_lald (v := (mem 43 (x3 + 1))) 43 rfl sh_43 (by decide) (s10 h1 h2 h3) rfl dX4_rowsWith_96 (fun r4 => ?_)
        refine st_iload rfl dX4_rowsWith_97 ?_
        refine sr_if_eq 122 ⟨by decide, by decide⟩ (by decide) dX4_rowsWith_99 (fun h => ?_) (fun h => ?_)
        · exact absurd h (by decide)
        refine st_aload_n (i := 0) rfl (t := 0) rfl (by decide) dX4_rowsWith_102 ?_
        refine so_getA 35 4 fr_X4_23_4 rfl sh_35 fx_35_4 dX4_rowsWith_103 ?_
        refine st_iload_n (i := 2) rfl rfl dX4_rowsWith_106 ?_
        refine st_iconst dX4_rowsWith_107 ?_
        refine st_isub dX4_rowsWith_108 ?_
        refine so_aald (v := 42) 39 (by decide) rfl sh_39 (by decide) (by omega) (fun hfx => by rw [oi_1]; exact hfx _ fx_39_2) dX4_rowsWith_109 ?_
        refine st_aload_n (i := 0) rfl (t := 0) rfl (by decide) dX4_rowsWith_110 ?_
        refine so_getA 35 3 fr_X4_18_4 rfl sh_35 fx_35_3 dX4_rowsWith_111 ?_
        refine st_iload_n (i := 3) rfl rfl dX4_rowsWith_114 ?_
        refine so_iald (v := (mem 38 x3)) 38 rfl sh_38 (by decide) (s6 h1 h2) rfl dX4_rowsWith_115 (fun r5 => ?_)
        refine st_iconst dX4_rowsWith_116 ?_
        refine st_iadd dX4_rowsWith_117 ?_
        refine so_lald (v := (mem 42 ((mem 38 x3) + 1))) 42 rfl sh_42 (by decide) (s11 h1 h2 h3) rfl dX4_rowsWith_118 (fun r6 => ?_)
        refine st_goto 123 (by decide) dX4_rowsWith_119 ?_
        refine st_ladd dX4_rowsWith_123 ?_
        refine so_last 43 fr_43 rfl sh_43 (by decide) (s12 h1 h2 h3) (s13 h1 h2 h3) dX4_rowsWith_124 ?_
        refine st_iinc (y := (x3 + (-1))) (by decide) (i := 3) rfl rfl (lc' := [(2, 35), (0, x1), (0, x2), (0, (x3 + (-1))), (0, 1)]) rfl dX4_rowsWith_125 ?_
        refine st_goto 49 (by decide) dX4_rowsWith_128 ?_
        exact st_locals [(2, 35), (0, x1), (0, x2), (0, (x3 + (-1))), (9, 0)] ⟨Or.inr rfl, Or.inr rfl, Or.inr rfl, Or.inr rfl, Or.inl rfl, trivial⟩ (k4 h1 h2 h3)
theorem bk_X4_rowsWith_3_137 {d : Nat} {P : Int → mmM → Prop} {mem : mmM} {x1 : Int}
  (oi_0 : x1 = 3)
  (q1 : x1 < 0 → P (-1) mem)
  (q2 : 0 ≤ x1 → 7 ≤ x1 → P (-1) mem)
  (q3 : 0 ≤ x1 → x1 < 7 → P (min 1000000000 (mem 43 0)) mem)
  (hd1 : 1 ≤ d := by omega)
  (s1 : R32 x1 := by intros; first | omega | assumption | solve_by_elim)
  : mmT bX4_rowsWith d 0 0 (mQ 0 P) 137 [(2, 35), (0, x1), (9, 0), (9, 0), (9, 0)] [] mS mem := by
  refine st_iload_n (i := 1) rfl rfl dX4_rowsWith_137 ?_
  refine sr_if_lt 168 s1 (by decide) dX4_rowsWith_138 (fun h1 => ?_) (fun h1 => ?_)
  · have h1 : x1 < 0 := by omega
    refine st_iconst dX4_rowsWith_168 ?_
    exact st_ireturn rfl dX4_rowsWith_169 (mQ.ret (q1 h1))
  · have h1 : 0 ≤ x1 := by omega
    refine st_iload_n (i := 1) rfl rfl dX4_rowsWith_141 ?_
    refine st_aload_n (i := 0) rfl (t := 0) rfl (by decide) dX4_rowsWith_142 ?_
    refine so_getA 35 4 fr_X4_23_4 rfl sh_35 fx_35_4 dX4_rowsWith_143 ?_
    refine so_alen (v := 7) 39 rfl sh_39 (by decide) rfl dX4_rowsWith_146 ?_
    refine sr_icmp_ge 168 s1 ⟨by decide, by decide⟩ (by decide) dX4_rowsWith_147 (fun h2 => ?_) (fun h2 => ?_)
    · have h2 : 7 ≤ x1 := by omega
      refine st_iconst dX4_rowsWith_168 ?_
      exact st_ireturn rfl dX4_rowsWith_169 (mQ.ret (q2 h1 h2))
    · have h2 : x1 < 7 := by omega
      refine st_ldc2 cw_X4_65 dX4_rowsWith_150 ?_
      refine st_aload_n (i := 0) rfl (t := 0) rfl (by decide) dX4_rowsWith_153 ?_
      refine so_getA 35 4 fr_X4_23_4 rfl sh_35 fx_35_4 dX4_rowsWith_154 ?_
      refine st_iload_n (i := 1) rfl rfl dX4_rowsWith_157 ?_
      refine so_aald (v := 43) 39 (by decide) rfl sh_39 (by decide) (by omega) (fun hfx => by rw [oi_0]; exact hfx _ fx_39_3) dX4_rowsWith_158 ?_
      refine st_iconst dX4_rowsWith_159 ?_
      refine so_lald (v := (mem 43 0)) 43 rfl sh_43 (by decide) ⟨by decide, by decide⟩ rfl dX4_rowsWith_160 (fun r1 => ?_)
      refine sr_mminl ⟨by decide, by decide⟩ r1 mr_X4_67 ms_minj mi_Math mc_minj hd1 (Nat.le_of_ble_eq_true rfl) dX4_rowsWith_161 ?_
      refine st_l2i dX4_rowsWith_164 ?_
      refine st_goto 169 (by decide) dX4_rowsWith_165 ?_
      exact st_ireturn rfl dX4_rowsWith_169 (mQ.ret (q3 h1 h2))
theorem rX_ex_3 (mem m : mmM) (x1 : Int) (hx : x1 = 3) (h : rwOK mem 4 m) (hn : 0 ≤ mem 23 1) : mmT bX4_rowsWith 3 0 0 (mQ 0 (rwQ mem x1)) 137 [(2, 35), (0, x1), (9, 0), (9, 0), (9, 0)] [] mS m := by
  refine bk_X4_rowsWith_3_137 hx (fun g => by omega) (fun g g2 => by omega) (fun g g2 => ⟨?_, h.1⟩)
  have := h.2 3 (by decide) 0 (by omega) hn
  rw [hx]
  exact congrArg (min 1000000000) this
theorem rX_in_3 (mem m : mmM) (x1 : Int) (h : rwOK mem 3 m) (hn : 0 ≤ mem 23 1 ∧ mem 23 1 ≤ 24) (hx : R32 x1) (nx : ∀ m', rwOK mem 4 m' → mmT bX4_rowsWith 3 0 0 (mQ 0 (rwQ mem x1)) 2 [(2, 35), (0, x1), (0, 4), (9, 0), (9, 0)] [] mS m') : mmT bX4_rowsWith 3 0 0 (mQ 0 (rwQ mem x1)) 16 [(2, 35), (0, x1), (0, 3), (9, 0), (9, 0)] [] mS m := by
  have e23 : m 23 = mem 23 := h.1 23 (by omega)
  have b0 : ∀ s, 0 ≤ s → 0 ≤ rwR (mem 23 1) (mem 38) 3 s ∧ rwR (mem 23 1) (mem 38) 3 s ≤ 191102976 := fun s s0 => by
    have := rwR_bnd (to := mem 38) hn.2 3 s0
    have := p24_6 (j := 3) (by decide)
    omega
  have b1 : ∀ s, 0 ≤ s → 0 ≤ rwR (mem 23 1) (mem 38) 2 s ∧ rwR (mem 23 1) (mem 38) 2 s ≤ 191102976 := fun s s0 => by
    have := rwR_bnd (to := mem 38) hn.2 2 s0
    have := p24_6 (j := 2) (by decide)
    omega
  refine bk_X4_rowsWith_3_16 rfl (fun g => ?_) (fun g => absurd g (by decide)) (s2 := fun _ => by rw [e23]; omega) (s3 := fun g => absurd g (by decide))
  have key : ∀ (t : Nat) (m' : mmM), (t : Int) ≤ mem 23 1 → rwFr mem m' → (∀ j, j < 3 → ∀ s, 0 ≤ s → s ≤ mem 23 1 → m' (40 + j) s = rwR (mem 23 1) (mem 38) j s) → (∀ s, (t : Int) ≤ s → s ≤ mem 23 1 → m' 43 s = rwR (mem 23 1) (mem 38) 3 s) → mmT bX4_rowsWith 3 0 0 (mQ 0 (rwQ mem x1)) 49 [(2, 35), (0, x1), (0, 3), (0, (t : Int) - 1), (9, 0)] [] mS m' := by
    intro t
    induction t with
    | zero =>
      intro m' ht f q r
      refine bk_X4_rowsWith_3_49 rfl rfl (fun g => nx m' ⟨f, fun j hj s s0 s1 => ?_⟩) (fun g => by omega) (fun g => by omega) (fun g => by omega) (s3 := fun g => by omega) (s4 := fun g => by omega) (s5 := fun g => by omega) (s6 := fun g => by omega) (s7 := fun g => by omega) (s8 := fun g => by omega) (s9 := fun g => by omega) (s10 := fun g => by omega) (s11 := fun g => by omega) (s12 := fun g => by omega) (s13 := fun g => by omega)
      rcases Nat.lt_or_ge j 3 with z | z
      · exact q j z s s0 s1
      · rw [show j = 3 by omega]
        exact r s (by omega) s1
    | succ t ih =>
      intro m' ht f q r
      have e38 : m' 38 = mem 38 := f 38 (by omega)
      have e23' : m' 23 = mem 23 := f 23 (by omega)
      have es : ((t + 1 : Nat) : Int) - 1 = (t : Int) := by omega
      rw [es]
      have e1 : m' 43 ((t : Int) + 1) = rwR (mem 23 1) (mem 38) 3 ((t : Int) + 1) := r _ (by omega) (by omega)
      have st := rwR_step (mem 23 1) (mem 38) 2 (s := (t : Int)) (by omega)
      have c1 := b0 ((t : Int) + 1) (by omega)
      have nxt : ∀ v, v = rwR (mem 23 1) (mem 38) 3 (t : Int) → mmT bX4_rowsWith 3 0 0 (mQ 0 (rwQ mem x1)) 49 [(2, 35), (0, x1), (0, 3), (0, (t : Int) + (-1)), (9, 0)] [] mS (mset m' 43 (t : Int) v) := by
        intro v hv
        rw [show (t : Int) + (-1) = (t : Int) - 1 by omega]
        refine ih _ (by omega) (fun a ha => by rw [mset_ne (by omega)]; exact f a ha) (fun j hj s s0 s1 => by rw [mset_ne (by omega)]; exact q j hj s s0 s1) (fun s s0 s1 => ?_)
        rw [mset_at]
        split
        · rename_i e
          rw [hv, e]
        · exact r s (by omega) s1
      have e2 : (0 ≤ mem 38 (t : Int) ∧ mem 38 (t : Int) < mem 23 1) → m' 42 (mem 38 (t : Int) + 1) = rwR (mem 23 1) (mem 38) 2 (mem 38 (t : Int) + 1) := fun z => q 2 (by decide) _ (by omega) (by omega)
      refine bk_X4_rowsWith_3_49 rfl rfl (fun g => by omega) (fun g g2 => absurd g2 (by decide)) (fun g g2 g3 => nxt _ ?_) (fun g g2 g3 => nxt _ ?_) (s3 := fun g g2 => absurd g2 (by decide)) (s4 := fun g g2 => absurd g2 (by decide)) (s5 := fun g g2 => absurd g2 (by decide)) (s6 := fun g g2 => by omega) (s7 := fun g g2 _ => by omega) (s8 := fun g g2 _ => by omega) (s9 := fun g g2 _ => by rw [e1]; omega) (s10 := fun g g2 _ => by omega) (s11 := fun g g2 z => by rw [e38, e23'] at z; rw [e38]; omega) (s12 := fun g g2 _ => by omega) (s13 := fun g g2 z => by
        rw [e38, e23'] at z
        have := b1 (mem 38 (t : Int) + 1) (by omega)
        rw [e38, e1, e2 z]
        omega)
      · rw [e38, e23'] at g3
        rw [e1, st, if_neg g3]
      · rw [e38, e23'] at g3
        rw [e38, e1, e2 g3, st, if_pos g3]
  have k := key (mem 23 1).toNat (mset m 43 (m 23 1) 0) (by omega) (fun a ha => by rw [mset_ne (by omega)]; exact h.1 a ha) (fun j hj s s0 s1 => by rw [mset_ne (by omega)]; exact h.2 j hj s s0 s1) (fun s s0 s1 => by rw [show s = mem 23 1 by omega, mset_at, e23, if_pos rfl, rwR_end, if_neg (by decide)])
  rw [show (((mem 23 1).toNat : Nat) : Int) = mem 23 1 by omega] at k
  rw [show m 23 1 - 1 = mem 23 1 - 1 by rw [e23]]
  exact k
theorem cn_X4_rowsWith_4 {d : Nat} {P : Int → mmM → Prop} {mem : mmM} {x1 : Int} (h : mmT bX4_rowsWith d 0 0 (mQ 0 P) 0 [(2, 35), (0, x1), (9, 0), (9, 0), (9, 0)] [] mS mem) : con 0 bX4_rowsWith d [(2, 35), (0, x1)] mem P := mmC_of [(2, 35), (0, x1), (9, 0), (9, 0), (9, 0)] ok_X4_rowsWith.2.2.2.2 rfl (Nat.le_of_ble_eq_true rfl) h
theorem bk_X4_rowsWith_4_0 {d : Nat} {P : Int → mmM → Prop} {mem : mmM} {x1 : Int}
  (k1 : mmT bX4_rowsWith d 0 0 (mQ 0 P) 2 [(2, 35), (0, x1), (0, 0), (9, 0), (9, 0)] [] mS mem)
  : mmT bX4_rowsWith d 0 0 (mQ 0 P) 0 [(2, 35), (0, x1), (9, 0), (9, 0), (9, 0)] [] mS mem := by
  refine st_iconst dX4_rowsWith_0 ?_
  refine st_istore_n (i := 2) rfl (by decide) (lc' := [(2, 35), (0, x1), (0, 0), (9, 0), (9, 0)]) rfl dX4_rowsWith_1 ?_
  exact st_locals [(2, 35), (0, x1), (0, 0), (9, 0), (9, 0)] ⟨Or.inr rfl, Or.inr rfl, Or.inr rfl, Or.inl rfl, Or.inl rfl, trivial⟩ k1
theorem bk_X4_rowsWith_4_2 {d : Nat} {P : Int → mmM → Prop} {mem : mmM} {x1 x2 : Int}
  (k1 : x1 < x2 → mmT bX4_rowsWith d 0 0 (mQ 0 P) 137 [(2, 35), (0, x1), (9, 0), (9, 0), (9, 0)] [] mS mem)
  (k2 : x2 ≤ x1 → 7 ≤ x2 → mmT bX4_rowsWith d 0 0 (mQ 0 P) 137 [(2, 35), (0, x1), (9, 0), (9, 0), (9, 0)] [] mS mem)
  (k3 : x2 ≤ x1 → x2 < 7 → mmT bX4_rowsWith d 0 0 (mQ 0 P) 16 [(2, 35), (0, x1), (0, x2), (9, 0), (9, 0)] [] mS mem)
  (s1 : R32 x2 := by intros; first | omega | assumption | solve_by_elim)
  (s2 : R32 x1 := by intros; first | omega | assumption | solve_by_elim)
  : mmT bX4_rowsWith d 0 0 (mQ 0 P) 2 [(2, 35), (0, x1), (0, x2), (9, 0), (9, 0)] [] mS mem := by
  refine st_iload_n (i := 2) rfl rfl dX4_rowsWith_2 ?_
  refine st_iload_n (i := 1) rfl rfl dX4_rowsWith_3 ?_
  refine sr_icmp_gt 137 s1 s2 (by decide) dX4_rowsWith_4 (fun h1 => ?_) (fun h1 => ?_)
  · have h1 : x1 < x2 := by omega
    exact st_locals [(2, 35), (0, x1), (9, 0), (9, 0), (9, 0)] ⟨Or.inr rfl, Or.inr rfl, Or.inl rfl, Or.inl rfl, Or.inl rfl, trivial⟩ (k1 h1)
  · have h1 : x2 ≤ x1 := by omega
    refine st_iload_n (i := 2) rfl rfl dX4_rowsWith_7 ?_
    refine st_aload_n (i := 0) rfl (t := 0) rfl (by decide) dX4_rowsWith_8 ?_
    refine so_getA 35 4 fr_X4_23_4 rfl sh_35 fx_35_4 dX4_rowsWith_9 ?_
    refine so_alen (v := 7) 39 rfl sh_39 (by decide) rfl dX4_rowsWith_12 ?_
    refine sr_icmp_ge 137 s1 ⟨by decide, by decide⟩ (by decide) dX4_rowsWith_13 (fun h2 => ?_) (fun h2 => ?_)
    · have h2 : 7 ≤ x2 := by omega
      exact st_locals [(2, 35), (0, x1), (9, 0), (9, 0), (9, 0)] ⟨Or.inr rfl, Or.inr rfl, Or.inl rfl, Or.inl rfl, Or.inl rfl, trivial⟩ (k2 h1 h2)
    · have h2 : x2 < 7 := by omega
      exact st_locals [(2, 35), (0, x1), (0, x2), (9, 0), (9, 0)] ⟨Or.inr rfl, Or.inr rfl, Or.inr rfl, Or.inl rfl, Or.inl rfl, trivial⟩ (k3 h1 h2)
theorem bk_X4_rowsWith_4_16 {d : Nat} {P : Int → mmM → Prop} {mem : mmM} {x1 x2 : Int}
  (oi_0 : x2 = 4)
  (k1 : ¬ x2 = 0 → mmT bX4_rowsWith d 0 0 (mQ 0 P) 49 [(2, 35), (0, x1), (0, x2), (0, ((mem 23 1) - 1)), (9, 0)] [] mS (mset mem 44 (mem 23 1) 0))
  (k2 : x2 = 0 → mmT bX4_rowsWith d 0 0 (mQ 0 P) 49 [(2, 35), (0, x1), (0, x2), (0, ((mem 23 1) - 1)), (9, 0)] [] mS (mset mem 44 (mem 23 1) 1))
  (s1 : R32 x2 := by intros; first | omega | assumption | solve_by_elim)
  (s2 : ¬ x2 = 0 → 0 ≤ (mem 23 1) ∧ (mem 23 1) < 25 := by intros; first | omega | assumption | solve_by_elim)
  (s3 : x2 = 0 → 0 ≤ (mem 23 1) ∧ (mem 23 1) < 25 := by intros; first | omega | assumption | solve_by_elim)
  : mmT bX4_rowsWith d 0 0 (mQ 0 P) 16 [(2, 35), (0, x1), (0, x2), (9, 0), (9, 0)] [] mS mem := by
  refine st_aload_n (i := 0) rfl (t := 0) rfl (by decide) dX4_rowsWith_16 ?_
  refine so_getA 35 4 fr_X4_23_4 rfl sh_35 fx_35_4 dX4_rowsWith_17 ?_
  refine st_iload_n (i := 2) rfl rfl dX4_rowsWith_20 ?_
  refine so_aald (v := 44) 39 (by decide) rfl sh_39 (by decide) (by omega) (fun hfx => by rw [oi_0]; exact hfx _ fx_39_4) dX4_rowsWith_21 ?_
  refine st_aload_n (i := 0) rfl (t := 0) rfl (by decide) dX4_rowsWith_22 ?_
  refine so_getA 35 0 fr_X4_26_4 rfl sh_35 fx_35_0 dX4_rowsWith_23 ?_
  refine so_getI (v := (mem 23 1)) 23 1 fr_X4_36_8 rfl sh_23 rfl dX4_rowsWith_26 (fun r1 => ?_)
  refine st_iload_n (i := 2) rfl rfl dX4_rowsWith_29 ?_
  refine sr_if_ne 37 s1 (by decide) dX4_rowsWith_30 (fun h1 => ?_) (fun h1 => ?_)
  · have h1 : ¬ x2 = 0 := by omega
    refine st_lconst (v := 0) rfl dX4_rowsWith_37 ?_
    refine so_last 44 fr_44 rfl sh_44 (by decide) (s2 h1) ⟨by decide, by decide⟩ dX4_rowsWith_38 ?_
    refine st_aload_n (i := 0) rfl (t := 0) rfl (by decide) dX4_rowsWith_39 ?_
    refine so_getA 35 0 fr_X4_26_4 rfl sh_35 fx_35_0 dX4_rowsWith_40 ?_
    refine so_getI (v := (mem 23 1)) 23 1 fr_X4_36_8 rfl sh_23 rfl dX4_rowsWith_43 (fun r2 => ?_)
    refine st_iconst dX4_rowsWith_46 ?_
    refine st_isub dX4_rowsWith_47 ?_
    refine st_istore_n (i := 3) rfl (by decide) (lc' := [(2, 35), (0, x1), (0, x2), (0, ((mem 23 1) - 1)), (9, 0)]) rfl dX4_rowsWith_48 ?_
    exact st_locals [(2, 35), (0, x1), (0, x2), (0, ((mem 23 1) - 1)), (9, 0)] ⟨Or.inr rfl, Or.inr rfl, Or.inr rfl, Or.inr rfl, Or.inl rfl, trivial⟩ (k1 h1)
  · have h1 : x2 = 0 := by omega
    refine st_lconst (v := 1) rfl dX4_rowsWith_33 ?_
    refine st_goto 38 (by decide) dX4_rowsWith_34 ?_
    refine so_last 44 fr_44 rfl sh_44 (by decide) (s3 h1) ⟨by decide, by decide⟩ dX4_rowsWith_38 ?_
    refine st_aload_n (i := 0) rfl (t := 0) rfl (by decide) dX4_rowsWith_39 ?_
    refine so_getA 35 0 fr_X4_26_4 rfl sh_35 fx_35_0 dX4_rowsWith_40 ?_
    refine so_getI (v := (mem 23 1)) 23 1 fr_X4_36_8 rfl sh_23 rfl dX4_rowsWith_43 (fun r3 => ?_)
    refine st_iconst dX4_rowsWith_46 ?_
    refine st_isub dX4_rowsWith_47 ?_
    refine st_istore_n (i := 3) rfl (by decide) (lc' := [(2, 35), (0, x1), (0, x2), (0, ((mem 23 1) - 1)), (9, 0)]) rfl dX4_rowsWith_48 ?_
    exact st_locals [(2, 35), (0, x1), (0, x2), (0, ((mem 23 1) - 1)), (9, 0)] ⟨Or.inr rfl, Or.inr rfl, Or.inr rfl, Or.inr rfl, Or.inl rfl, trivial⟩ (k2 h1)
theorem bk_X4_rowsWith_4_49 {d : Nat} {P : Int → mmM → Prop} {mem : mmM} {x1 x2 x3 : Int}
  (oi_0 : x2 = 4)
  (oi_1 : (x2 - 1) = 3)
  (k1 : x3 < 0 → mmT bX4_rowsWith d 0 0 (mQ 0 P) 2 [(2, 35), (0, x1), (0, (x2 + 1)), (9, 0), (9, 0)] [] mS mem)
  (k2 : 0 ≤ x3 → x2 ≤ 0 → mmT bX4_rowsWith d 0 0 (mQ 0 P) 49 [(2, 35), (0, x1), (0, x2), (0, (x3 + (-1))), (9, 0)] [] mS (mset mem 44 x3 ((mem 44 (x3 + 1)) + 0)))
  (k3 : 0 ≤ x3 → 0 < x2 → ¬ (0 ≤ (mem 38 x3) ∧ (mem 38 x3) < (mem 23 1)) → mmT bX4_rowsWith d 0 0 (mQ 0 P) 49 [(2, 35), (0, x1), (0, x2), (0, (x3 + (-1))), (9, 0)] [] mS (mset mem 44 x3 ((mem 44 (x3 + 1)) + 0)))
  (k4 : 0 ≤ x3 → 0 < x2 → (0 ≤ (mem 38 x3) ∧ (mem 38 x3) < (mem 23 1)) → mmT bX4_rowsWith d 0 0 (mQ 0 P) 49 [(2, 35), (0, x1), (0, x2), (0, (x3 + (-1))), (9, 0)] [] mS (mset mem 44 x3 ((mem 44 (x3 + 1)) + (mem 43 ((mem 38 x3) + 1)))))
  (hd2 : 2 ≤ d := by omega)
  (s1 : R32 x3 := by intros; first | omega | assumption | solve_by_elim)
  (s2 : 0 ≤ x3 → R32 x2 := by intros; first | omega | assumption | solve_by_elim)
  (s3 : 0 ≤ x3 → x2 ≤ 0 → 0 ≤ (x3 + 1) ∧ (x3 + 1) < 25 := by intros; first | omega | assumption | solve_by_elim)
  (s4 : 0 ≤ x3 → x2 ≤ 0 → 0 ≤ x3 ∧ x3 < 25 := by intros; first | omega | assumption | solve_by_elim)
  (s5 : 0 ≤ x3 → x2 ≤ 0 → R64 ((mem 44 (x3 + 1)) + 0) := by intros; first | omega | assumption | solve_by_elim)
  (s6 : 0 ≤ x3 → 0 < x2 → 0 ≤ x3 ∧ x3 < 24 := by intros; first | omega | assumption | solve_by_elim)
  (s7 : 0 ≤ x3 → 0 < x2 → ¬ (0 ≤ (mem 38 x3) ∧ (mem 38 x3) < (mem 23 1)) → 0 ≤ (x3 + 1) ∧ (x3 + 1) < 25 := by intros; first | omega | assumption | solve_by_elim)
  (s8 : 0 ≤ x3 → 0 < x2 → ¬ (0 ≤ (mem 38 x3) ∧ (mem 38 x3) < (mem 23 1)) → 0 ≤ x3 ∧ x3 < 25 := by intros; first | omega | assumption | solve_by_elim)
  (s9 : 0 ≤ x3 → 0 < x2 → ¬ (0 ≤ (mem 38 x3) ∧ (mem 38 x3) < (mem 23 1)) → R64 ((mem 44 (x3 + 1)) + 0) := by intros; first | omega | assumption | solve_by_elim)
  (s10 : 0 ≤ x3 → 0 < x2 → (0 ≤ (mem 38 x3) ∧ (mem 38 x3) < (mem 23 1)) → 0 ≤ (x3 + 1) ∧ (x3 + 1) < 25 := by intros; first | omega | assumption | solve_by_elim)
  (s11 : 0 ≤ x3 → 0 < x2 → (0 ≤ (mem 38 x3) ∧ (mem 38 x3) < (mem 23 1)) → 0 ≤ ((mem 38 x3) + 1) ∧ ((mem 38 x3) + 1) < 25 := by intros; first | omega | assumption | solve_by_elim)
  (s12 : 0 ≤ x3 → 0 < x2 → (0 ≤ (mem 38 x3) ∧ (mem 38 x3) < (mem 23 1)) → 0 ≤ x3 ∧ x3 < 25 := by intros; first | omega | assumption | solve_by_elim)
  (s13 : 0 ≤ x3 → 0 < x2 → (0 ≤ (mem 38 x3) ∧ (mem 38 x3) < (mem 23 1)) → R64 ((mem 44 (x3 + 1)) + (mem 43 ((mem 38 x3) + 1))) := by intros; first | omega | assumption | solve_by_elim)
  : mmT bX4_rowsWith d 0 0 (mQ 0 P) 49 [(2, 35), (0, x1), (0, x2), (0, x3), (9, 0)] [] mS mem := by
  refine st_iload_n (i := 3) rfl rfl dX4_rowsWith_49 ?_
  refine sr_if_lt 131 s1 (by decide) dX4_rowsWith_50 (fun h1 => ?_) (fun h1 => ?_)
  · have h1 : x3 < 0 := by omega
    refine st_iinc (y := (x2 + 1)) (by decide) (i := 2) rfl rfl (lc' := [(2, 35), (0, x1), (0, (x2 + 1)), (0, x3), (9, 0)]) rfl dX4_rowsWith_131 ?_
    refine st_goto 2 (by decide) dX4_rowsWith_134 ?_
    exact st_locals [(2, 35), (0, x1), (0, (x2 + 1)), (9, 0), (9, 0)] ⟨Or.inr rfl, Or.inr rfl, Or.inr rfl, Or.inl rfl, Or.inl rfl, trivial⟩ (k1 h1)
  · have h1 : 0 ≤ x3 := by omega
    refine st_iload_n (i := 2) rfl rfl dX4_rowsWith_53 ?_
    refine sr_if_le 77 (s2 h1) (by decide) dX4_rowsWith_54 (fun h2 => ?_) (fun h2 => ?_)
    · have h2 : x2 ≤ 0 := by omega
      refine st_iconst dX4_rowsWith_77 ?_
      refine st_istore (by decide) (lc' := [(2, 35), (0, x1), (0, x2), (0, x3), (0, 0)]) rfl dX4_rowsWith_78 ?_
      refine st_aload_n (i := 0) rfl (t := 0) rfl (by decide) dX4_rowsWith_80 ?_
      refine so_getA 35 4 fr_X4_23_4 rfl sh_35 fx_35_4 dX4_rowsWith_81 ?_
      refine st_iload_n (i := 2) rfl rfl dX4_rowsWith_84 ?_
      refine so_aald (v := 44) 39 (by decide) rfl sh_39 (by decide) (by omega) (fun hfx => by rw [oi_0]; exact hfx _ fx_39_4) dX4_rowsWith_85 ?_
      refine st_iload_n (i := 3) rfl rfl dX4_rowsWith_86 ?_
      refine st_aload_n (i := 0) rfl (t := 0) rfl (by decide) dX4_rowsWith_87 ?_
      refine so_getA 35 4 fr_X4_23_4 rfl sh_35 fx_35_4 dX4_rowsWith_88 ?_
      refine st_iload_n (i := 2) rfl rfl dX4_rowsWith_91 ?_
      refine so_aald (v := 44) 39 (by decide) rfl sh_39 (by decide) (by omega) (fun hfx => by rw [oi_0]; exact hfx _ fx_39_4) dX4_rowsWith_92 ?_
      refine st_iload_n (i := 3) rfl rfl dX4_rowsWith_93 ?_
      refine st_iconst dX4_rowsWith_94 ?_
      refine st_iadd dX4_rowsWith_95 ?_
      refine so_lald (v := (mem 44 (x3 + 1))) 44 rfl sh_44 (by decide) (s3 h1 h2) rfl dX4_rowsWith_96 (fun r1 => ?_)
      refine st_iload rfl dX4_rowsWith_97 ?_
      refine sr_if_eq 122 ⟨by decide, by decide⟩ (by decide) dX4_rowsWith_99 (fun h => ?_) (fun h => ?_)
      rotate_left
      · exact absurd h (by decide)
      refine st_lconst (v := 0) rfl dX4_rowsWith_122 ?_
      refine st_ladd dX4_rowsWith_123 ?_
      refine so_last 44 fr_44 rfl sh_44 (by decide) (s4 h1 h2) (s5 h1 h2) dX4_rowsWith_124 ?_
      refine st_iinc (y := (x3 + (-1))) (by decide) (i := 3) rfl rfl (lc' := [(2, 35), (0, x1), (0, x2), (0, (x3 + (-1))), (0, 0)]) rfl dX4_rowsWith_125 ?_
      refine st_goto 49 (by decide) dX4_rowsWith_128 ?_
      exact st_locals [(2, 35), (0, x1), (0, x2), (0, (x3 + (-1))), (9, 0)] ⟨Or.inr rfl, Or.inr rfl, Or.inr rfl, Or.inr rfl, Or.inl rfl, trivial⟩ (k2 h1 h2)
    · have h2 : 0 < x2 := by omega
      refine st_aload_n (i := 0) rfl (t := 0) rfl (by decide) dX4_rowsWith_57 ?_
      refine so_getA 35 0 fr_X4_26_4 rfl sh_35 fx_35_0 dX4_rowsWith_58 ?_
      refine st_aload_n (i := 0) rfl (t := 0) rfl (by decide) dX4_rowsWith_61 ?_
      refine so_getA 35 3 fr_X4_18_4 rfl sh_35 fx_35_3 dX4_rowsWith_62 ?_
      refine st_iload_n (i := 3) rfl rfl dX4_rowsWith_65 ?_
      refine so_iald (v := (mem 38 x3)) 38 rfl sh_38 (by decide) (s6 h1 h2) rfl dX4_rowsWith_66 (fun r2 => ?_)
      refine st_callV (kc2 := 0) (ks2 := 0) (av := [(0, (mem 38 x3))]) 23 8 mr_X4_61 ok_X8_has (c_X8_has mem (mem 38 x3) (r2)) rfl sh_23 ⟨_, rfl, rfl, by decide⟩ rfl rfl hd2 (Nat.le_refl 0) (Nat.le_refl 0) (Nat.le_of_ble_eq_true rfl) dX4_rowsWith_67 (mQ.elim fun v1 m1 hp => ?_)
      obtain ⟨hpv, hpm⟩ := hp
      subst hpv
      have hpm := hpm.symm
      subst hpm
      refine so_ifeqB 77 (by decide) dX4_rowsWith_70 (fun h3 => ?_) (fun h3 => ?_)
      · have h3 : ¬ (0 ≤ (mem 38 x3) ∧ (mem 38 x3) < (mem 23 1)) := h3
        refine st_iconst dX4_rowsWith_77 ?_
        refine st_istore (by decide) (lc' := [(2, 35), (0, x1), (0, x2), (0, x3), (0, 0)]) rfl dX4_rowsWith_78 ?_
        refine st_aload_n (i := 0) rfl (t := 0) rfl (by decide) dX4_rowsWith_80 ?_
        refine so_getA 35 4 fr_X4_23_4 rfl sh_35 fx_35_4 dX4_rowsWith_81 ?_
        refine st_iload_n (i := 2) rfl rfl dX4_rowsWith_84 ?_
        refine so_aald (v := 44) 39 (by decide) rfl sh_39 (by decide) (by omega) (fun hfx => by rw [oi_0]; exact hfx _ fx_39_4) dX4_rowsWith_85 ?_
        refine st_iload_n (i := 3) rfl rfl dX4_rowsWith_86 ?_
        refine st_aload_n (i := 0) rfl (t := 0) rfl (by decide) dX4_rowsWith_87 ?_
        refine so_getA 35 4 fr_X4_23_4 rfl sh_35 fx_35_4 dX4_rowsWith_88 ?_
        refine st_iload_n (i := 2) rfl rfl dX4_rowsWith_91 ?_
        refine so_aald (v := 44) 39 (by decide) rfl sh_39 (by decide) (by omega) (fun hfx => by rw [oi_0]; exact hfx _ fx_39_4) dX4_rowsWith_92 ?_
        refine st_iload_n (i := 3) rfl rfl dX4_rowsWith_93 ?_
        refine st_iconst dX4_rowsWith_94 ?_
        refine st_iadd dX4_rowsWith_95 ?_
        refine so_lald (v := (mem 44 (x3 + 1))) 44 rfl sh_44 (by decide) (s7 h1 h2 h3) rfl dX4_rowsWith_96 (fun r3 => ?_)
        refine st_iload rfl dX4_rowsWith_97 ?_
        refine sr_if_eq 122 ⟨by decide, by decide⟩ (by decide) dX4_rowsWith_99 (fun h => ?_) (fun h => ?_)
        rotate_left
        · exact absurd h (by decide)
        refine st_lconst (v := 0) rfl dX4_rowsWith_122 ?_
        refine st_ladd dX4_rowsWith_123 ?_
        refine so_last 44 fr_44 rfl sh_44 (by decide) (s8 h1 h2 h3) (s9 h1 h2 h3) dX4_rowsWith_124 ?_
        refine st_iinc (y := (x3 + (-1))) (by decide) (i := 3) rfl rfl (lc' := [(2, 35), (0, x1), (0, x2), (0, (x3 + (-1))), (0, 0)]) rfl dX4_rowsWith_125 ?_
        refine st_goto 49 (by decide) dX4_rowsWith_128 ?_
        exact st_locals [(2, 35), (0, x1), (0, x2), (0, (x3 + (-1))), (9, 0)] ⟨Or.inr rfl, Or.inr rfl, Or.inr rfl, Or.inr rfl, Or.inl rfl, trivial⟩ (k3 h1 h2 h3)
      · have h3 : (0 ≤ (mem 38 x3) ∧ (mem 38 x3) < (mem 23 1)) := h3
        refine st_iconst dX4_rowsWith_73 ?_
        refine st_goto 78 (by decide) dX4_rowsWith_74 ?_
        refine st_istore (by decide) (lc' := [(2, 35), (0, x1), (0, x2), (0, x3), (0, 1)]) rfl dX4_rowsWith_78 ?_
        refine st_aload_n (i := 0) rfl (t := 0) rfl (by decide) dX4_rowsWith_80 ?_
        refine so_getA 35 4 fr_X4_23_4 rfl sh_35 fx_35_4 dX4_rowsWith_81 ?_
        refine st_iload_n (i := 2) rfl rfl dX4_rowsWith_84 ?_
        refine so_aald (v := 44) 39 (by decide) rfl sh_39 (by decide) (by omega) (fun hfx => by rw [oi_0]; exact hfx _ fx_39_4) dX4_rowsWith_85 ?_
        refine st_iload_n (i := 3) rfl rfl dX4_rowsWith_86 ?_
        refine st_aload_n (i := 0) rfl (t := 0) rfl (by decide) dX4_rowsWith_87 ?_
        refine so_getA 35 4 fr_X4_23_4 rfl sh_35 fx_35_4 dX4_rowsWith_88 ?_
        refine st_iload_n (i := 2) rfl rfl dX4_rowsWith_91 ?_
        refine so_aald (v := 44) 39 (by decide) rfl sh_39 (by decide) (by omega) (fun hfx => by rw [oi_0]; exact hfx _ fx_39_4) dX4_rowsWith_92 ?_
        refine st_iload_n (i := 3) rfl rfl dX4_rowsWith_93 ?_
        refine st_iconst dX4_rowsWith_94 ?_
        refine st_iadd dX4_rowsWith_95 ?_
        refine so_lald (v := (mem 44 (x3 + 1))) 44 rfl sh_44 (by decide) (s10 h1 h2 h3) rfl dX4_rowsWith_96 (fun r4 => ?_)
        refine st_iload rfl dX4_rowsWith_97 ?_
        refine sr_if_eq 122 ⟨by decide, by decide⟩ (by decide) dX4_rowsWith_99 (fun h => ?_) (fun h => ?_)
        · exact absurd h (by decide)
        refine st_aload_n (i := 0) rfl (t := 0) rfl (by decide) dX4_rowsWith_102 ?_
        refine so_getA 35 4 fr_X4_23_4 rfl sh_35 fx_35_4 dX4_rowsWith_103 ?_
        refine st_iload_n (i := 2) rfl rfl dX4_rowsWith_106 ?_
        refine st_iconst dX4_rowsWith_107 ?_
        refine st_isub dX4_rowsWith_108 ?_
        refine so_aald (v := 43) 39 (by decide) rfl sh_39 (by decide) (by omega) (fun hfx => by rw [oi_1]; exact hfx _ fx_39_3) dX4_rowsWith_109 ?_
        refine st_aload_n (i := 0) rfl (t := 0) rfl (by decide) dX4_rowsWith_110 ?_
        refine so_getA 35 3 fr_X4_18_4 rfl sh_35 fx_35_3 dX4_rowsWith_111 ?_
        refine st_iload_n (i := 3) rfl rfl dX4_rowsWith_114 ?_
        refine so_iald (v := (mem 38 x3)) 38 rfl sh_38 (by decide) (s6 h1 h2) rfl dX4_rowsWith_115 (fun r5 => ?_)
        refine st_iconst dX4_rowsWith_116 ?_
        refine st_iadd dX4_rowsWith_117 ?_
        refine so_lald (v := (mem 43 ((mem 38 x3) + 1))) 43 rfl sh_43 (by decide) (s11 h1 h2 h3) rfl dX4_rowsWith_118 (fun r6 => ?_)
        refine st_goto 123 (by decide) dX4_rowsWith_119 ?_
        refine st_ladd dX4_rowsWith_123 ?_
        refine so_last 44 fr_44 rfl sh_44 (by decide) (s12 h1 h2 h3) (s13 h1 h2 h3) dX4_rowsWith_124 ?_
        refine st_iinc (y := (x3 + (-1))) (by decide) (i := 3) rfl rfl (lc' := [(2, 35), (0, x1), (0, x2), (0, (x3 + (-1))), (0, 1)]) rfl dX4_rowsWith_125 ?_
        refine st_goto 49 (by decide) dX4_rowsWith_128 ?_
        exact st_locals [(2, 35), (0, x1), (0, x2), (0, (x3 + (-1))), (9, 0)] ⟨Or.inr rfl, Or.inr rfl, Or.inr rfl, Or.inr rfl, Or.inl rfl, trivial⟩ (k4 h1 h2 h3)
theorem bk_X4_rowsWith_4_137 {d : Nat} {P : Int → mmM → Prop} {mem : mmM} {x1 : Int}
  (oi_0 : x1 = 4)
  (q1 : x1 < 0 → P (-1) mem)
  (q2 : 0 ≤ x1 → 7 ≤ x1 → P (-1) mem)
  (q3 : 0 ≤ x1 → x1 < 7 → P (min 1000000000 (mem 44 0)) mem)
  (hd1 : 1 ≤ d := by omega)
  (s1 : R32 x1 := by intros; first | omega | assumption | solve_by_elim)
  : mmT bX4_rowsWith d 0 0 (mQ 0 P) 137 [(2, 35), (0, x1), (9, 0), (9, 0), (9, 0)] [] mS mem := by
  refine st_iload_n (i := 1) rfl rfl dX4_rowsWith_137 ?_
  refine sr_if_lt 168 s1 (by decide) dX4_rowsWith_138 (fun h1 => ?_) (fun h1 => ?_)
  · have h1 : x1 < 0 := by omega
    refine st_iconst dX4_rowsWith_168 ?_
    exact st_ireturn rfl dX4_rowsWith_169 (mQ.ret (q1 h1))
  · have h1 : 0 ≤ x1 := by omega
    refine st_iload_n (i := 1) rfl rfl dX4_rowsWith_141 ?_
    refine st_aload_n (i := 0) rfl (t := 0) rfl (by decide) dX4_rowsWith_142 ?_
    refine so_getA 35 4 fr_X4_23_4 rfl sh_35 fx_35_4 dX4_rowsWith_143 ?_
    refine so_alen (v := 7) 39 rfl sh_39 (by decide) rfl dX4_rowsWith_146 ?_
    refine sr_icmp_ge 168 s1 ⟨by decide, by decide⟩ (by decide) dX4_rowsWith_147 (fun h2 => ?_) (fun h2 => ?_)
    · have h2 : 7 ≤ x1 := by omega
      refine st_iconst dX4_rowsWith_168 ?_
      exact st_ireturn rfl dX4_rowsWith_169 (mQ.ret (q2 h1 h2))
    · have h2 : x1 < 7 := by omega
      refine st_ldc2 cw_X4_65 dX4_rowsWith_150 ?_
      refine st_aload_n (i := 0) rfl (t := 0) rfl (by decide) dX4_rowsWith_153 ?_
      refine so_getA 35 4 fr_X4_23_4 rfl sh_35 fx_35_4 dX4_rowsWith_154 ?_
      refine st_iload_n (i := 1) rfl rfl dX4_rowsWith_157 ?_
      refine so_aald (v := 44) 39 (by decide) rfl sh_39 (by decide) (by omega) (fun hfx => by rw [oi_0]; exact hfx _ fx_39_4) dX4_rowsWith_158 ?_
      refine st_iconst dX4_rowsWith_159 ?_
      refine so_lald (v := (mem 44 0)) 44 rfl sh_44 (by decide) ⟨by decide, by decide⟩ rfl dX4_rowsWith_160 (fun r1 => ?_)
      refine sr_mminl ⟨by decide, by decide⟩ r1 mr_X4_67 ms_minj mi_Math mc_minj hd1 (Nat.le_of_ble_eq_true rfl) dX4_rowsWith_161 ?_
      refine st_l2i dX4_rowsWith_164 ?_
      refine st_goto 169 (by decide) dX4_rowsWith_165 ?_
      exact st_ireturn rfl dX4_rowsWith_169 (mQ.ret (q3 h1 h2))
theorem rX_ex_4 (mem m : mmM) (x1 : Int) (hx : x1 = 4) (h : rwOK mem 5 m) (hn : 0 ≤ mem 23 1) : mmT bX4_rowsWith 3 0 0 (mQ 0 (rwQ mem x1)) 137 [(2, 35), (0, x1), (9, 0), (9, 0), (9, 0)] [] mS m := by
  refine bk_X4_rowsWith_4_137 hx (fun g => by omega) (fun g g2 => by omega) (fun g g2 => ⟨?_, h.1⟩)
  have := h.2 4 (by decide) 0 (by omega) hn
  rw [hx]
  exact congrArg (min 1000000000) this
theorem rX_in_4 (mem m : mmM) (x1 : Int) (h : rwOK mem 4 m) (hn : 0 ≤ mem 23 1 ∧ mem 23 1 ≤ 24) (hx : R32 x1) (nx : ∀ m', rwOK mem 5 m' → mmT bX4_rowsWith 3 0 0 (mQ 0 (rwQ mem x1)) 2 [(2, 35), (0, x1), (0, 5), (9, 0), (9, 0)] [] mS m') : mmT bX4_rowsWith 3 0 0 (mQ 0 (rwQ mem x1)) 16 [(2, 35), (0, x1), (0, 4), (9, 0), (9, 0)] [] mS m := by
  have e23 : m 23 = mem 23 := h.1 23 (by omega)
  have b0 : ∀ s, 0 ≤ s → 0 ≤ rwR (mem 23 1) (mem 38) 4 s ∧ rwR (mem 23 1) (mem 38) 4 s ≤ 191102976 := fun s s0 => by
    have := rwR_bnd (to := mem 38) hn.2 4 s0
    have := p24_6 (j := 4) (by decide)
    omega
  have b1 : ∀ s, 0 ≤ s → 0 ≤ rwR (mem 23 1) (mem 38) 3 s ∧ rwR (mem 23 1) (mem 38) 3 s ≤ 191102976 := fun s s0 => by
    have := rwR_bnd (to := mem 38) hn.2 3 s0
    have := p24_6 (j := 3) (by decide)
    omega
  refine bk_X4_rowsWith_4_16 rfl (fun g => ?_) (fun g => absurd g (by decide)) (s2 := fun _ => by rw [e23]; omega) (s3 := fun g => absurd g (by decide))
  have key : ∀ (t : Nat) (m' : mmM), (t : Int) ≤ mem 23 1 → rwFr mem m' → (∀ j, j < 4 → ∀ s, 0 ≤ s → s ≤ mem 23 1 → m' (40 + j) s = rwR (mem 23 1) (mem 38) j s) → (∀ s, (t : Int) ≤ s → s ≤ mem 23 1 → m' 44 s = rwR (mem 23 1) (mem 38) 4 s) → mmT bX4_rowsWith 3 0 0 (mQ 0 (rwQ mem x1)) 49 [(2, 35), (0, x1), (0, 4), (0, (t : Int) - 1), (9, 0)] [] mS m' := by
    intro t
    induction t with
    | zero =>
      intro m' ht f q r
      refine bk_X4_rowsWith_4_49 rfl rfl (fun g => nx m' ⟨f, fun j hj s s0 s1 => ?_⟩) (fun g => by omega) (fun g => by omega) (fun g => by omega) (s3 := fun g => by omega) (s4 := fun g => by omega) (s5 := fun g => by omega) (s6 := fun g => by omega) (s7 := fun g => by omega) (s8 := fun g => by omega) (s9 := fun g => by omega) (s10 := fun g => by omega) (s11 := fun g => by omega) (s12 := fun g => by omega) (s13 := fun g => by omega)
      rcases Nat.lt_or_ge j 4 with z | z
      · exact q j z s s0 s1
      · rw [show j = 4 by omega]
        exact r s (by omega) s1
    | succ t ih =>
      intro m' ht f q r
      have e38 : m' 38 = mem 38 := f 38 (by omega)
      have e23' : m' 23 = mem 23 := f 23 (by omega)
      have es : ((t + 1 : Nat) : Int) - 1 = (t : Int) := by omega
      rw [es]
      have e1 : m' 44 ((t : Int) + 1) = rwR (mem 23 1) (mem 38) 4 ((t : Int) + 1) := r _ (by omega) (by omega)
      have st := rwR_step (mem 23 1) (mem 38) 3 (s := (t : Int)) (by omega)
      have c1 := b0 ((t : Int) + 1) (by omega)
      have nxt : ∀ v, v = rwR (mem 23 1) (mem 38) 4 (t : Int) → mmT bX4_rowsWith 3 0 0 (mQ 0 (rwQ mem x1)) 49 [(2, 35), (0, x1), (0, 4), (0, (t : Int) + (-1)), (9, 0)] [] mS (mset m' 44 (t : Int) v) := by
        intro v hv
        rw [show (t : Int) + (-1) = (t : Int) - 1 by omega]
        refine ih _ (by omega) (fun a ha => by rw [mset_ne (by omega)]; exact f a ha) (fun j hj s s0 s1 => by rw [mset_ne (by omega)]; exact q j hj s s0 s1) (fun s s0 s1 => ?_)
        rw [mset_at]
        split
        · rename_i e
          rw [hv, e]
        · exact r s (by omega) s1
      have e2 : (0 ≤ mem 38 (t : Int) ∧ mem 38 (t : Int) < mem 23 1) → m' 43 (mem 38 (t : Int) + 1) = rwR (mem 23 1) (mem 38) 3 (mem 38 (t : Int) + 1) := fun z => q 3 (by decide) _ (by omega) (by omega)
      refine bk_X4_rowsWith_4_49 rfl rfl (fun g => by omega) (fun g g2 => absurd g2 (by decide)) (fun g g2 g3 => nxt _ ?_) (fun g g2 g3 => nxt _ ?_) (s3 := fun g g2 => absurd g2 (by decide)) (s4 := fun g g2 => absurd g2 (by decide)) (s5 := fun g g2 => absurd g2 (by decide)) (s6 := fun g g2 => by omega) (s7 := fun g g2 _ => by omega) (s8 := fun g g2 _ => by omega) (s9 := fun g g2 _ => by rw [e1]; omega) (s10 := fun g g2 _ => by omega) (s11 := fun g g2 z => by rw [e38, e23'] at z; rw [e38]; omega) (s12 := fun g g2 _ => by omega) (s13 := fun g g2 z => by
        rw [e38, e23'] at z
        have := b1 (mem 38 (t : Int) + 1) (by omega)
        rw [e38, e1, e2 z]
        omega)
      · rw [e38, e23'] at g3
        rw [e1, st, if_neg g3]
      · rw [e38, e23'] at g3
        rw [e38, e1, e2 g3, st, if_pos g3]
  have k := key (mem 23 1).toNat (mset m 44 (m 23 1) 0) (by omega) (fun a ha => by rw [mset_ne (by omega)]; exact h.1 a ha) (fun j hj s s0 s1 => by rw [mset_ne (by omega)]; exact h.2 j hj s s0 s1) (fun s s0 s1 => by rw [show s = mem 23 1 by omega, mset_at, e23, if_pos rfl, rwR_end, if_neg (by decide)])
  rw [show (((mem 23 1).toNat : Nat) : Int) = mem 23 1 by omega] at k
  rw [show m 23 1 - 1 = mem 23 1 - 1 by rw [e23]]
  exact k
theorem cn_X4_rowsWith_5 {d : Nat} {P : Int → mmM → Prop} {mem : mmM} {x1 : Int} (h : mmT bX4_rowsWith d 0 0 (mQ 0 P) 0 [(2, 35), (0, x1), (9, 0), (9, 0), (9, 0)] [] mS mem) : con 0 bX4_rowsWith d [(2, 35), (0, x1)] mem P := mmC_of [(2, 35), (0, x1), (9, 0), (9, 0), (9, 0)] ok_X4_rowsWith.2.2.2.2 rfl (Nat.le_of_ble_eq_true rfl) h
theorem bk_X4_rowsWith_5_0 {d : Nat} {P : Int → mmM → Prop} {mem : mmM} {x1 : Int}
  (k1 : mmT bX4_rowsWith d 0 0 (mQ 0 P) 2 [(2, 35), (0, x1), (0, 0), (9, 0), (9, 0)] [] mS mem)
  : mmT bX4_rowsWith d 0 0 (mQ 0 P) 0 [(2, 35), (0, x1), (9, 0), (9, 0), (9, 0)] [] mS mem := by
  refine st_iconst dX4_rowsWith_0 ?_
  refine st_istore_n (i := 2) rfl (by decide) (lc' := [(2, 35), (0, x1), (0, 0), (9, 0), (9, 0)]) rfl dX4_rowsWith_1 ?_
  exact st_locals [(2, 35), (0, x1), (0, 0), (9, 0), (9, 0)] ⟨Or.inr rfl, Or.inr rfl, Or.inr rfl, Or.inl rfl, Or.inl rfl, trivial⟩ k1
theorem bk_X4_rowsWith_5_2 {d : Nat} {P : Int → mmM → Prop} {mem : mmM} {x1 x2 : Int}
  (k1 : x1 < x2 → mmT bX4_rowsWith d 0 0 (mQ 0 P) 137 [(2, 35), (0, x1), (9, 0), (9, 0), (9, 0)] [] mS mem)
  (k2 : x2 ≤ x1 → 7 ≤ x2 → mmT bX4_rowsWith d 0 0 (mQ 0 P) 137 [(2, 35), (0, x1), (9, 0), (9, 0), (9, 0)] [] mS mem)
  (k3 : x2 ≤ x1 → x2 < 7 → mmT bX4_rowsWith d 0 0 (mQ 0 P) 16 [(2, 35), (0, x1), (0, x2), (9, 0), (9, 0)] [] mS mem)
  (s1 : R32 x2 := by intros; first | omega | assumption | solve_by_elim)
  (s2 : R32 x1 := by intros; first | omega | assumption | solve_by_elim)
  : mmT bX4_rowsWith d 0 0 (mQ 0 P) 2 [(2, 35), (0, x1), (0, x2), (9, 0), (9, 0)] [] mS mem := by
  refine st_iload_n (i := 2) rfl rfl dX4_rowsWith_2 ?_
  refine st_iload_n (i := 1) rfl rfl dX4_rowsWith_3 ?_
  refine sr_icmp_gt 137 s1 s2 (by decide) dX4_rowsWith_4 (fun h1 => ?_) (fun h1 => ?_)
  · have h1 : x1 < x2 := by omega
    exact st_locals [(2, 35), (0, x1), (9, 0), (9, 0), (9, 0)] ⟨Or.inr rfl, Or.inr rfl, Or.inl rfl, Or.inl rfl, Or.inl rfl, trivial⟩ (k1 h1)
  · have h1 : x2 ≤ x1 := by omega
    refine st_iload_n (i := 2) rfl rfl dX4_rowsWith_7 ?_
    refine st_aload_n (i := 0) rfl (t := 0) rfl (by decide) dX4_rowsWith_8 ?_
    refine so_getA 35 4 fr_X4_23_4 rfl sh_35 fx_35_4 dX4_rowsWith_9 ?_
    refine so_alen (v := 7) 39 rfl sh_39 (by decide) rfl dX4_rowsWith_12 ?_
    refine sr_icmp_ge 137 s1 ⟨by decide, by decide⟩ (by decide) dX4_rowsWith_13 (fun h2 => ?_) (fun h2 => ?_)
    · have h2 : 7 ≤ x2 := by omega
      exact st_locals [(2, 35), (0, x1), (9, 0), (9, 0), (9, 0)] ⟨Or.inr rfl, Or.inr rfl, Or.inl rfl, Or.inl rfl, Or.inl rfl, trivial⟩ (k2 h1 h2)
    · have h2 : x2 < 7 := by omega
      exact st_locals [(2, 35), (0, x1), (0, x2), (9, 0), (9, 0)] ⟨Or.inr rfl, Or.inr rfl, Or.inr rfl, Or.inl rfl, Or.inl rfl, trivial⟩ (k3 h1 h2)
theorem bk_X4_rowsWith_5_16 {d : Nat} {P : Int → mmM → Prop} {mem : mmM} {x1 x2 : Int}
  (oi_0 : x2 = 5)
  (k1 : ¬ x2 = 0 → mmT bX4_rowsWith d 0 0 (mQ 0 P) 49 [(2, 35), (0, x1), (0, x2), (0, ((mem 23 1) - 1)), (9, 0)] [] mS (mset mem 45 (mem 23 1) 0))
  (k2 : x2 = 0 → mmT bX4_rowsWith d 0 0 (mQ 0 P) 49 [(2, 35), (0, x1), (0, x2), (0, ((mem 23 1) - 1)), (9, 0)] [] mS (mset mem 45 (mem 23 1) 1))
  (s1 : R32 x2 := by intros; first | omega | assumption | solve_by_elim)
  (s2 : ¬ x2 = 0 → 0 ≤ (mem 23 1) ∧ (mem 23 1) < 25 := by intros; first | omega | assumption | solve_by_elim)
  (s3 : x2 = 0 → 0 ≤ (mem 23 1) ∧ (mem 23 1) < 25 := by intros; first | omega | assumption | solve_by_elim)
  : mmT bX4_rowsWith d 0 0 (mQ 0 P) 16 [(2, 35), (0, x1), (0, x2), (9, 0), (9, 0)] [] mS mem := by
  refine st_aload_n (i := 0) rfl (t := 0) rfl (by decide) dX4_rowsWith_16 ?_
  refine so_getA 35 4 fr_X4_23_4 rfl sh_35 fx_35_4 dX4_rowsWith_17 ?_
  refine st_iload_n (i := 2) rfl rfl dX4_rowsWith_20 ?_
  refine so_aald (v := 45) 39 (by decide) rfl sh_39 (by decide) (by omega) (fun hfx => by rw [oi_0]; exact hfx _ fx_39_5) dX4_rowsWith_21 ?_
  refine st_aload_n (i := 0) rfl (t := 0) rfl (by decide) dX4_rowsWith_22 ?_
  refine so_getA 35 0 fr_X4_26_4 rfl sh_35 fx_35_0 dX4_rowsWith_23 ?_
  refine so_getI (v := (mem 23 1)) 23 1 fr_X4_36_8 rfl sh_23 rfl dX4_rowsWith_26 (fun r1 => ?_)
  refine st_iload_n (i := 2) rfl rfl dX4_rowsWith_29 ?_
  refine sr_if_ne 37 s1 (by decide) dX4_rowsWith_30 (fun h1 => ?_) (fun h1 => ?_)
  · have h1 : ¬ x2 = 0 := by omega
    refine st_lconst (v := 0) rfl dX4_rowsWith_37 ?_
    refine so_last 45 fr_45 rfl sh_45 (by decide) (s2 h1) ⟨by decide, by decide⟩ dX4_rowsWith_38 ?_
    refine st_aload_n (i := 0) rfl (t := 0) rfl (by decide) dX4_rowsWith_39 ?_
    refine so_getA 35 0 fr_X4_26_4 rfl sh_35 fx_35_0 dX4_rowsWith_40 ?_
    refine so_getI (v := (mem 23 1)) 23 1 fr_X4_36_8 rfl sh_23 rfl dX4_rowsWith_43 (fun r2 => ?_)
    refine st_iconst dX4_rowsWith_46 ?_
    refine st_isub dX4_rowsWith_47 ?_
    refine st_istore_n (i := 3) rfl (by decide) (lc' := [(2, 35), (0, x1), (0, x2), (0, ((mem 23 1) - 1)), (9, 0)]) rfl dX4_rowsWith_48 ?_
    exact st_locals [(2, 35), (0, x1), (0, x2), (0, ((mem 23 1) - 1)), (9, 0)] ⟨Or.inr rfl, Or.inr rfl, Or.inr rfl, Or.inr rfl, Or.inl rfl, trivial⟩ (k1 h1)
  · have h1 : x2 = 0 := by omega
    refine st_lconst (v := 1) rfl dX4_rowsWith_33 ?_
    refine st_goto 38 (by decide) dX4_rowsWith_34 ?_
    refine so_last 45 fr_45 rfl sh_45 (by decide) (s3 h1) ⟨by decide, by decide⟩ dX4_rowsWith_38 ?_
    refine st_aload_n (i := 0) rfl (t := 0) rfl (by decide) dX4_rowsWith_39 ?_
    refine so_getA 35 0 fr_X4_26_4 rfl sh_35 fx_35_0 dX4_rowsWith_40 ?_
    refine so_getI (v := (mem 23 1)) 23 1 fr_X4_36_8 rfl sh_23 rfl dX4_rowsWith_43 (fun r3 => ?_)
    refine st_iconst dX4_rowsWith_46 ?_
    refine st_isub dX4_rowsWith_47 ?_
    refine st_istore_n (i := 3) rfl (by decide) (lc' := [(2, 35), (0, x1), (0, x2), (0, ((mem 23 1) - 1)), (9, 0)]) rfl dX4_rowsWith_48 ?_
    exact st_locals [(2, 35), (0, x1), (0, x2), (0, ((mem 23 1) - 1)), (9, 0)] ⟨Or.inr rfl, Or.inr rfl, Or.inr rfl, Or.inr rfl, Or.inl rfl, trivial⟩ (k2 h1)
theorem bk_X4_rowsWith_5_49 {d : Nat} {P : Int → mmM → Prop} {mem : mmM} {x1 x2 x3 : Int}
  (oi_0 : x2 = 5)
  (oi_1 : (x2 - 1) = 4)
  (k1 : x3 < 0 → mmT bX4_rowsWith d 0 0 (mQ 0 P) 2 [(2, 35), (0, x1), (0, (x2 + 1)), (9, 0), (9, 0)] [] mS mem)
  (k2 : 0 ≤ x3 → x2 ≤ 0 → mmT bX4_rowsWith d 0 0 (mQ 0 P) 49 [(2, 35), (0, x1), (0, x2), (0, (x3 + (-1))), (9, 0)] [] mS (mset mem 45 x3 ((mem 45 (x3 + 1)) + 0)))
  (k3 : 0 ≤ x3 → 0 < x2 → ¬ (0 ≤ (mem 38 x3) ∧ (mem 38 x3) < (mem 23 1)) → mmT bX4_rowsWith d 0 0 (mQ 0 P) 49 [(2, 35), (0, x1), (0, x2), (0, (x3 + (-1))), (9, 0)] [] mS (mset mem 45 x3 ((mem 45 (x3 + 1)) + 0)))
  (k4 : 0 ≤ x3 → 0 < x2 → (0 ≤ (mem 38 x3) ∧ (mem 38 x3) < (mem 23 1)) → mmT bX4_rowsWith d 0 0 (mQ 0 P) 49 [(2, 35), (0, x1), (0, x2), (0, (x3 + (-1))), (9, 0)] [] mS (mset mem 45 x3 ((mem 45 (x3 + 1)) + (mem 44 ((mem 38 x3) + 1)))))
  (hd2 : 2 ≤ d := by omega)
  (s1 : R32 x3 := by intros; first | omega | assumption | solve_by_elim)
  (s2 : 0 ≤ x3 → R32 x2 := by intros; first | omega | assumption | solve_by_elim)
  (s3 : 0 ≤ x3 → x2 ≤ 0 → 0 ≤ (x3 + 1) ∧ (x3 + 1) < 25 := by intros; first | omega | assumption | solve_by_elim)
  (s4 : 0 ≤ x3 → x2 ≤ 0 → 0 ≤ x3 ∧ x3 < 25 := by intros; first | omega | assumption | solve_by_elim)
  (s5 : 0 ≤ x3 → x2 ≤ 0 → R64 ((mem 45 (x3 + 1)) + 0) := by intros; first | omega | assumption | solve_by_elim)
  (s6 : 0 ≤ x3 → 0 < x2 → 0 ≤ x3 ∧ x3 < 24 := by intros; first | omega | assumption | solve_by_elim)
  (s7 : 0 ≤ x3 → 0 < x2 → ¬ (0 ≤ (mem 38 x3) ∧ (mem 38 x3) < (mem 23 1)) → 0 ≤ (x3 + 1) ∧ (x3 + 1) < 25 := by intros; first | omega | assumption | solve_by_elim)
  (s8 : 0 ≤ x3 → 0 < x2 → ¬ (0 ≤ (mem 38 x3) ∧ (mem 38 x3) < (mem 23 1)) → 0 ≤ x3 ∧ x3 < 25 := by intros; first | omega | assumption | solve_by_elim)
  (s9 : 0 ≤ x3 → 0 < x2 → ¬ (0 ≤ (mem 38 x3) ∧ (mem 38 x3) < (mem 23 1)) → R64 ((mem 45 (x3 + 1)) + 0) := by intros; first | omega | assumption | solve_by_elim)
  (s10 : 0 ≤ x3 → 0 < x2 → (0 ≤ (mem 38 x3) ∧ (mem 38 x3) < (mem 23 1)) → 0 ≤ (x3 + 1) ∧ (x3 + 1) < 25 := by intros; first | omega | assumption | solve_by_elim)
  (s11 : 0 ≤ x3 → 0 < x2 → (0 ≤ (mem 38 x3) ∧ (mem 38 x3) < (mem 23 1)) → 0 ≤ ((mem 38 x3) + 1) ∧ ((mem 38 x3) + 1) < 25 := by intros; first | omega | assumption | solve_by_elim)
  (s12 : 0 ≤ x3 → 0 < x2 → (0 ≤ (mem 38 x3) ∧ (mem 38 x3) < (mem 23 1)) → 0 ≤ x3 ∧ x3 < 25 := by intros; first | omega | assumption | solve_by_elim)
  (s13 : 0 ≤ x3 → 0 < x2 → (0 ≤ (mem 38 x3) ∧ (mem 38 x3) < (mem 23 1)) → R64 ((mem 45 (x3 + 1)) + (mem 44 ((mem 38 x3) + 1))) := by intros; first | omega | assumption | solve_by_elim)
  : mmT bX4_rowsWith d 0 0 (mQ 0 P) 49 [(2, 35), (0, x1), (0, x2), (0, x3), (9, 0)] [] mS mem := by
  refine st_iload_n (i := 3) rfl rfl dX4_rowsWith_49 ?_
  refine sr_if_lt 131 s1 (by decide) dX4_rowsWith_50 (fun h1 => ?_) (fun h1 => ?_)
  · have h1 : x3 < 0 := by omega
    refine st_iinc (y := (x2 + 1)) (by decide) (i := 2) rfl rfl (lc' := [(2, 35), (0, x1), (0, (x2 + 1)), (0, x3), (9, 0)]) rfl dX4_rowsWith_131 ?_
    refine st_goto 2 (by decide) dX4_rowsWith_134 ?_
    exact st_locals [(2, 35), (0, x1), (0, (x2 + 1)), (9, 0), (9, 0)] ⟨Or.inr rfl, Or.inr rfl, Or.inr rfl, Or.inl rfl, Or.inl rfl, trivial⟩ (k1 h1)
  · have h1 : 0 ≤ x3 := by omega
    refine st_iload_n (i := 2) rfl rfl dX4_rowsWith_53 ?_
    refine sr_if_le 77 (s2 h1) (by decide) dX4_rowsWith_54 (fun h2 => ?_) (fun h2 => ?_)
    · have h2 : x2 ≤ 0 := by omega
      refine st_iconst dX4_rowsWith_77 ?_
      refine st_istore (by decide) (lc' := [(2, 35), (0, x1), (0, x2), (0, x3), (0, 0)]) rfl dX4_rowsWith_78 ?_
      refine st_aload_n (i := 0) rfl (t := 0) rfl (by decide) dX4_rowsWith_80 ?_
      refine so_getA 35 4 fr_X4_23_4 rfl sh_35 fx_35_4 dX4_rowsWith_81 ?_
      refine st_iload_n (i := 2) rfl rfl dX4_rowsWith_84 ?_
      refine so_aald (v := 45) 39 (by decide) rfl sh_39 (by decide) (by omega) (fun hfx => by rw [oi_0]; exact hfx _ fx_39_5) dX4_rowsWith_85 ?_
      refine st_iload_n (i := 3) rfl rfl dX4_rowsWith_86 ?_
      refine st_aload_n (i := 0) rfl (t := 0) rfl (by decide) dX4_rowsWith_87 ?_
      refine so_getA 35 4 fr_X4_23_4 rfl sh_35 fx_35_4 dX4_rowsWith_88 ?_
      refine st_iload_n (i := 2) rfl rfl dX4_rowsWith_91 ?_
      refine so_aald (v := 45) 39 (by decide) rfl sh_39 (by decide) (by omega) (fun hfx => by rw [oi_0]; exact hfx _ fx_39_5) dX4_rowsWith_92 ?_
      refine st_iload_n (i := 3) rfl rfl dX4_rowsWith_93 ?_
      refine st_iconst dX4_rowsWith_94 ?_
      refine st_iadd dX4_rowsWith_95 ?_
      refine so_lald (v := (mem 45 (x3 + 1))) 45 rfl sh_45 (by decide) (s3 h1 h2) rfl dX4_rowsWith_96 (fun r1 => ?_)
      refine st_iload rfl dX4_rowsWith_97 ?_
      refine sr_if_eq 122 ⟨by decide, by decide⟩ (by decide) dX4_rowsWith_99 (fun h => ?_) (fun h => ?_)
      rotate_left
      · exact absurd h (by decide)
      refine st_lconst (v := 0) rfl dX4_rowsWith_122 ?_
      refine st_ladd dX4_rowsWith_123 ?_
      refine so_last 45 fr_45 rfl sh_45 (by decide) (s4 h1 h2) (s5 h1 h2) dX4_rowsWith_124 ?_
      refine st_iinc (y := (x3 + (-1))) (by decide) (i := 3) rfl rfl (lc' := [(2, 35), (0, x1), (0, x2), (0, (x3 + (-1))), (0, 0)]) rfl dX4_rowsWith_125 ?_
      refine st_goto 49 (by decide) dX4_rowsWith_128 ?_
      exact st_locals [(2, 35), (0, x1), (0, x2), (0, (x3 + (-1))), (9, 0)] ⟨Or.inr rfl, Or.inr rfl, Or.inr rfl, Or.inr rfl, Or.inl rfl, trivial⟩ (k2 h1 h2)
    · have h2 : 0 < x2 := by omega
      refine st_aload_n (i := 0) rfl (t := 0) rfl (by decide) dX4_rowsWith_57 ?_
      refine so_getA 35 0 fr_X4_26_4 rfl sh_35 fx_35_0 dX4_rowsWith_58 ?_
      refine st_aload_n (i := 0) rfl (t := 0) rfl (by decide) dX4_rowsWith_61 ?_
      refine so_getA 35 3 fr_X4_18_4 rfl sh_35 fx_35_3 dX4_rowsWith_62 ?_
      refine st_iload_n (i := 3) rfl rfl dX4_rowsWith_65 ?_
      refine so_iald (v := (mem 38 x3)) 38 rfl sh_38 (by decide) (s6 h1 h2) rfl dX4_rowsWith_66 (fun r2 => ?_)
      refine st_callV (kc2 := 0) (ks2 := 0) (av := [(0, (mem 38 x3))]) 23 8 mr_X4_61 ok_X8_has (c_X8_has mem (mem 38 x3) (r2)) rfl sh_23 ⟨_, rfl, rfl, by decide⟩ rfl rfl hd2 (Nat.le_refl 0) (Nat.le_refl 0) (Nat.le_of_ble_eq_true rfl) dX4_rowsWith_67 (mQ.elim fun v1 m1 hp => ?_)
      obtain ⟨hpv, hpm⟩ := hp
      subst hpv
      have hpm := hpm.symm
      subst hpm
      refine so_ifeqB 77 (by decide) dX4_rowsWith_70 (fun h3 => ?_) (fun h3 => ?_)
      · have h3 : ¬ (0 ≤ (mem 38 x3) ∧ (mem 38 x3) < (mem 23 1)) := h3
        refine st_iconst dX4_rowsWith_77 ?_
        refine st_istore (by decide) (lc' := [(2, 35), (0, x1), (0, x2), (0, x3), (0, 0)]) rfl dX4_rowsWith_78 ?_
        refine st_aload_n (i := 0) rfl (t := 0) rfl (by decide) dX4_rowsWith_80 ?_
        refine so_getA 35 4 fr_X4_23_4 rfl sh_35 fx_35_4 dX4_rowsWith_81 ?_
        refine st_iload_n (i := 2) rfl rfl dX4_rowsWith_84 ?_
        refine so_aald (v := 45) 39 (by decide) rfl sh_39 (by decide) (by omega) (fun hfx => by rw [oi_0]; exact hfx _ fx_39_5) dX4_rowsWith_85 ?_
        refine st_iload_n (i := 3) rfl rfl dX4_rowsWith_86 ?_
        refine st_aload_n (i := 0) rfl (t := 0) rfl (by decide) dX4_rowsWith_87 ?_
        refine so_getA 35 4 fr_X4_23_4 rfl sh_35 fx_35_4 dX4_rowsWith_88 ?_
        refine st_iload_n (i := 2) rfl rfl dX4_rowsWith_91 ?_
        refine so_aald (v := 45) 39 (by decide) rfl sh_39 (by decide) (by omega) (fun hfx => by rw [oi_0]; exact hfx _ fx_39_5) dX4_rowsWith_92 ?_
        refine st_iload_n (i := 3) rfl rfl dX4_rowsWith_93 ?_
        refine st_iconst dX4_rowsWith_94 ?_
        refine st_iadd dX4_rowsWith_95 ?_
        refine so_lald (v := (mem 45 (x3 + 1))) 45 rfl sh_45 (by decide) (s7 h1 h2 h3) rfl dX4_rowsWith_96 (fun r3 => ?_)
        refine st_iload rfl dX4_rowsWith_97 ?_
        refine sr_if_eq 122 ⟨by decide, by decide⟩ (by decide) dX4_rowsWith_99 (fun h => ?_) (fun h => ?_)
        rotate_left
        · exact absurd h (by decide)
        refine st_lconst (v := 0) rfl dX4_rowsWith_122 ?_
        refine st_ladd dX4_rowsWith_123 ?_
        refine so_last 45 fr_45 rfl sh_45 (by decide) (s8 h1 h2 h3) (s9 h1 h2 h3) dX4_rowsWith_124 ?_
        refine st_iinc (y := (x3 + (-1))) (by decide) (i := 3) rfl rfl (lc' := [(2, 35), (0, x1), (0, x2), (0, (x3 + (-1))), (0, 0)]) rfl dX4_rowsWith_125 ?_
        refine st_goto 49 (by decide) dX4_rowsWith_128 ?_
        exact st_locals [(2, 35), (0, x1), (0, x2), (0, (x3 + (-1))), (9, 0)] ⟨Or.inr rfl, Or.inr rfl, Or.inr rfl, Or.inr rfl, Or.inl rfl, trivial⟩ (k3 h1 h2 h3)
      · have h3 : (0 ≤ (mem 38 x3) ∧ (mem 38 x3) < (mem 23 1)) := h3
        refine st_iconst dX4_rowsWith_73 ?_
        refine st_goto 78 (by decide) dX4_rowsWith_74 ?_
        refine st_istore (by decide) (lc' := [(2, 35), (0, x1), (0, x2), (0, x3), (0, 1)]) rfl dX4_rowsWith_78 ?_
        refine st_aload_n (i := 0) rfl (t := 0) rfl (by decide) dX4_rowsWith_80 ?_
        refine so_getA 35 4 fr_X4_23_4 rfl sh_35 fx_35_4 dX4_rowsWith_81 ?_
        refine st_iload_n (i := 2) rfl rfl dX4_rowsWith_84 ?_
        refine so_aald (v := 45) 39 (by decide) rfl sh_39 (by decide) (by omega) (fun hfx => by rw [oi_0]; exact hfx _ fx_39_5) dX4_rowsWith_85 ?_
        refine st_iload_n (i := 3) rfl rfl dX4_rowsWith_86 ?_
        refine st_aload_n (i := 0) rfl (t := 0) rfl (by decide) dX4_rowsWith_87 ?_
        refine so_getA 35 4 fr_X4_23_4 rfl sh_35 fx_35_4 dX4_rowsWith_88 ?_
        refine st_iload_n (i := 2) rfl rfl dX4_rowsWith_91 ?_
        refine so_aald (v := 45) 39 (by decide) rfl sh_39 (by decide) (by omega) (fun hfx => by rw [oi_0]; exact hfx _ fx_39_5) dX4_rowsWith_92 ?_
        refine st_iload_n (i := 3) rfl rfl dX4_rowsWith_93 ?_
        refine st_iconst dX4_rowsWith_94 ?_
        refine st_iadd dX4_rowsWith_95 ?_
        refine so_lald (v := (mem 45 (x3 + 1))) 45 rfl sh_45 (by decide) (s10 h1 h2 h3) rfl dX4_rowsWith_96 (fun r4 => ?_)
        refine st_iload rfl dX4_rowsWith_97 ?_
        refine sr_if_eq 122 ⟨by decide, by decide⟩ (by decide) dX4_rowsWith_99 (fun h => ?_) (fun h => ?_)
        · exact absurd h (by decide)
        refine st_aload_n (i := 0) rfl (t := 0) rfl (by decide) dX4_rowsWith_102 ?_
        refine so_getA 35 4 fr_X4_23_4 rfl sh_35 fx_35_4 dX4_rowsWith_103 ?_
        refine st_iload_n (i := 2) rfl rfl dX4_rowsWith_106 ?_
        refine st_iconst dX4_rowsWith_107 ?_
        refine st_isub dX4_rowsWith_108 ?_
        refine so_aald (v := 44) 39 (by decide) rfl sh_39 (by decide) (by omega) (fun hfx => by rw [oi_1]; exact hfx _ fx_39_4) dX4_rowsWith_109 ?_
        refine st_aload_n (i := 0) rfl (t := 0) rfl (by decide) dX4_rowsWith_110 ?_
        refine so_getA 35 3 fr_X4_18_4 rfl sh_35 fx_35_3 dX4_rowsWith_111 ?_
        refine st_iload_n (i := 3) rfl rfl dX4_rowsWith_114 ?_
        refine so_iald (v := (mem 38 x3)) 38 rfl sh_38 (by decide) (s6 h1 h2) rfl dX4_rowsWith_115 (fun r5 => ?_)
        refine st_iconst dX4_rowsWith_116 ?_
        refine st_iadd dX4_rowsWith_117 ?_
        refine so_lald (v := (mem 44 ((mem 38 x3) + 1))) 44 rfl sh_44 (by decide) (s11 h1 h2 h3) rfl dX4_rowsWith_118 (fun r6 => ?_)
        refine st_goto 123 (by decide) dX4_rowsWith_119 ?_
        refine st_ladd dX4_rowsWith_123 ?_
        refine so_last 45 fr_45 rfl sh_45 (by decide) (s12 h1 h2 h3) (s13 h1 h2 h3) dX4_rowsWith_124 ?_
        refine st_iinc (y := (x3 + (-1))) (by decide) (i := 3) rfl rfl (lc' := [(2, 35), (0, x1), (0, x2), (0, (x3 + (-1))), (0, 1)]) rfl dX4_rowsWith_125 ?_
        refine st_goto 49 (by decide) dX4_rowsWith_128 ?_
        exact st_locals [(2, 35), (0, x1), (0, x2), (0, (x3 + (-1))), (9, 0)] ⟨Or.inr rfl, Or.inr rfl, Or.inr rfl, Or.inr rfl, Or.inl rfl, trivial⟩ (k4 h1 h2 h3)
theorem bk_X4_rowsWith_5_137 {d : Nat} {P : Int → mmM → Prop} {mem : mmM} {x1 : Int}
  (oi_0 : x1 = 5)
  (q1 : x1 < 0 → P (-1) mem)
  (q2 : 0 ≤ x1 → 7 ≤ x1 → P (-1) mem)
  (q3 : 0 ≤ x1 → x1 < 7 → P (min 1000000000 (mem 45 0)) mem)
  (hd1 : 1 ≤ d := by omega)
  (s1 : R32 x1 := by intros; first | omega | assumption | solve_by_elim)
  : mmT bX4_rowsWith d 0 0 (mQ 0 P) 137 [(2, 35), (0, x1), (9, 0), (9, 0), (9, 0)] [] mS mem := by
  refine st_iload_n (i := 1) rfl rfl dX4_rowsWith_137 ?_
  refine sr_if_lt 168 s1 (by decide) dX4_rowsWith_138 (fun h1 => ?_) (fun h1 => ?_)
  · have h1 : x1 < 0 := by omega
    refine st_iconst dX4_rowsWith_168 ?_
    exact st_ireturn rfl dX4_rowsWith_169 (mQ.ret (q1 h1))
  · have h1 : 0 ≤ x1 := by omega
    refine st_iload_n (i := 1) rfl rfl dX4_rowsWith_141 ?_
    refine st_aload_n (i := 0) rfl (t := 0) rfl (by decide) dX4_rowsWith_142 ?_
    refine so_getA 35 4 fr_X4_23_4 rfl sh_35 fx_35_4 dX4_rowsWith_143 ?_
    refine so_alen (v := 7) 39 rfl sh_39 (by decide) rfl dX4_rowsWith_146 ?_
    refine sr_icmp_ge 168 s1 ⟨by decide, by decide⟩ (by decide) dX4_rowsWith_147 (fun h2 => ?_) (fun h2 => ?_)
    · have h2 : 7 ≤ x1 := by omega
      refine st_iconst dX4_rowsWith_168 ?_
      exact st_ireturn rfl dX4_rowsWith_169 (mQ.ret (q2 h1 h2))
    · have h2 : x1 < 7 := by omega
      refine st_ldc2 cw_X4_65 dX4_rowsWith_150 ?_
      refine st_aload_n (i := 0) rfl (t := 0) rfl (by decide) dX4_rowsWith_153 ?_
      refine so_getA 35 4 fr_X4_23_4 rfl sh_35 fx_35_4 dX4_rowsWith_154 ?_
      refine st_iload_n (i := 1) rfl rfl dX4_rowsWith_157 ?_
      refine so_aald (v := 45) 39 (by decide) rfl sh_39 (by decide) (by omega) (fun hfx => by rw [oi_0]; exact hfx _ fx_39_5) dX4_rowsWith_158 ?_
      refine st_iconst dX4_rowsWith_159 ?_
      refine so_lald (v := (mem 45 0)) 45 rfl sh_45 (by decide) ⟨by decide, by decide⟩ rfl dX4_rowsWith_160 (fun r1 => ?_)
      refine sr_mminl ⟨by decide, by decide⟩ r1 mr_X4_67 ms_minj mi_Math mc_minj hd1 (Nat.le_of_ble_eq_true rfl) dX4_rowsWith_161 ?_
      refine st_l2i dX4_rowsWith_164 ?_
      refine st_goto 169 (by decide) dX4_rowsWith_165 ?_
      exact st_ireturn rfl dX4_rowsWith_169 (mQ.ret (q3 h1 h2))
theorem rX_ex_5 (mem m : mmM) (x1 : Int) (hx : x1 = 5) (h : rwOK mem 6 m) (hn : 0 ≤ mem 23 1) : mmT bX4_rowsWith 3 0 0 (mQ 0 (rwQ mem x1)) 137 [(2, 35), (0, x1), (9, 0), (9, 0), (9, 0)] [] mS m := by
  refine bk_X4_rowsWith_5_137 hx (fun g => by omega) (fun g g2 => by omega) (fun g g2 => ⟨?_, h.1⟩)
  have := h.2 5 (by decide) 0 (by omega) hn
  rw [hx]
  exact congrArg (min 1000000000) this
theorem rX_in_5 (mem m : mmM) (x1 : Int) (h : rwOK mem 5 m) (hn : 0 ≤ mem 23 1 ∧ mem 23 1 ≤ 24) (hx : R32 x1) (nx : ∀ m', rwOK mem 6 m' → mmT bX4_rowsWith 3 0 0 (mQ 0 (rwQ mem x1)) 2 [(2, 35), (0, x1), (0, 6), (9, 0), (9, 0)] [] mS m') : mmT bX4_rowsWith 3 0 0 (mQ 0 (rwQ mem x1)) 16 [(2, 35), (0, x1), (0, 5), (9, 0), (9, 0)] [] mS m := by
  have e23 : m 23 = mem 23 := h.1 23 (by omega)
  have b0 : ∀ s, 0 ≤ s → 0 ≤ rwR (mem 23 1) (mem 38) 5 s ∧ rwR (mem 23 1) (mem 38) 5 s ≤ 191102976 := fun s s0 => by
    have := rwR_bnd (to := mem 38) hn.2 5 s0
    have := p24_6 (j := 5) (by decide)
    omega
  have b1 : ∀ s, 0 ≤ s → 0 ≤ rwR (mem 23 1) (mem 38) 4 s ∧ rwR (mem 23 1) (mem 38) 4 s ≤ 191102976 := fun s s0 => by
    have := rwR_bnd (to := mem 38) hn.2 4 s0
    have := p24_6 (j := 4) (by decide)
    omega
  refine bk_X4_rowsWith_5_16 rfl (fun g => ?_) (fun g => absurd g (by decide)) (s2 := fun _ => by rw [e23]; omega) (s3 := fun g => absurd g (by decide))
  have key : ∀ (t : Nat) (m' : mmM), (t : Int) ≤ mem 23 1 → rwFr mem m' → (∀ j, j < 5 → ∀ s, 0 ≤ s → s ≤ mem 23 1 → m' (40 + j) s = rwR (mem 23 1) (mem 38) j s) → (∀ s, (t : Int) ≤ s → s ≤ mem 23 1 → m' 45 s = rwR (mem 23 1) (mem 38) 5 s) → mmT bX4_rowsWith 3 0 0 (mQ 0 (rwQ mem x1)) 49 [(2, 35), (0, x1), (0, 5), (0, (t : Int) - 1), (9, 0)] [] mS m' := by
    intro t
    induction t with
    | zero =>
      intro m' ht f q r
      refine bk_X4_rowsWith_5_49 rfl rfl (fun g => nx m' ⟨f, fun j hj s s0 s1 => ?_⟩) (fun g => by omega) (fun g => by omega) (fun g => by omega) (s3 := fun g => by omega) (s4 := fun g => by omega) (s5 := fun g => by omega) (s6 := fun g => by omega) (s7 := fun g => by omega) (s8 := fun g => by omega) (s9 := fun g => by omega) (s10 := fun g => by omega) (s11 := fun g => by omega) (s12 := fun g => by omega) (s13 := fun g => by omega)
      rcases Nat.lt_or_ge j 5 with z | z
      · exact q j z s s0 s1
      · rw [show j = 5 by omega]
        exact r s (by omega) s1
    | succ t ih =>
      intro m' ht f q r
      have e38 : m' 38 = mem 38 := f 38 (by omega)
      have e23' : m' 23 = mem 23 := f 23 (by omega)
      have es : ((t + 1 : Nat) : Int) - 1 = (t : Int) := by omega
      rw [es]
      have e1 : m' 45 ((t : Int) + 1) = rwR (mem 23 1) (mem 38) 5 ((t : Int) + 1) := r _ (by omega) (by omega)
      have st := rwR_step (mem 23 1) (mem 38) 4 (s := (t : Int)) (by omega)
      have c1 := b0 ((t : Int) + 1) (by omega)
      have nxt : ∀ v, v = rwR (mem 23 1) (mem 38) 5 (t : Int) → mmT bX4_rowsWith 3 0 0 (mQ 0 (rwQ mem x1)) 49 [(2, 35), (0, x1), (0, 5), (0, (t : Int) + (-1)), (9, 0)] [] mS (mset m' 45 (t : Int) v) := by
        intro v hv
        rw [show (t : Int) + (-1) = (t : Int) - 1 by omega]
        refine ih _ (by omega) (fun a ha => by rw [mset_ne (by omega)]; exact f a ha) (fun j hj s s0 s1 => by rw [mset_ne (by omega)]; exact q j hj s s0 s1) (fun s s0 s1 => ?_)
        rw [mset_at]
        split
        · rename_i e
          rw [hv, e]
        · exact r s (by omega) s1
      have e2 : (0 ≤ mem 38 (t : Int) ∧ mem 38 (t : Int) < mem 23 1) → m' 44 (mem 38 (t : Int) + 1) = rwR (mem 23 1) (mem 38) 4 (mem 38 (t : Int) + 1) := fun z => q 4 (by decide) _ (by omega) (by omega)
      refine bk_X4_rowsWith_5_49 rfl rfl (fun g => by omega) (fun g g2 => absurd g2 (by decide)) (fun g g2 g3 => nxt _ ?_) (fun g g2 g3 => nxt _ ?_) (s3 := fun g g2 => absurd g2 (by decide)) (s4 := fun g g2 => absurd g2 (by decide)) (s5 := fun g g2 => absurd g2 (by decide)) (s6 := fun g g2 => by omega) (s7 := fun g g2 _ => by omega) (s8 := fun g g2 _ => by omega) (s9 := fun g g2 _ => by rw [e1]; omega) (s10 := fun g g2 _ => by omega) (s11 := fun g g2 z => by rw [e38, e23'] at z; rw [e38]; omega) (s12 := fun g g2 _ => by omega) (s13 := fun g g2 z => by
        rw [e38, e23'] at z
        have := b1 (mem 38 (t : Int) + 1) (by omega)
        rw [e38, e1, e2 z]
        omega)
      · rw [e38, e23'] at g3
        rw [e1, st, if_neg g3]
      · rw [e38, e23'] at g3
        rw [e38, e1, e2 g3, st, if_pos g3]
  have k := key (mem 23 1).toNat (mset m 45 (m 23 1) 0) (by omega) (fun a ha => by rw [mset_ne (by omega)]; exact h.1 a ha) (fun j hj s s0 s1 => by rw [mset_ne (by omega)]; exact h.2 j hj s s0 s1) (fun s s0 s1 => by rw [show s = mem 23 1 by omega, mset_at, e23, if_pos rfl, rwR_end, if_neg (by decide)])
  rw [show (((mem 23 1).toNat : Nat) : Int) = mem 23 1 by omega] at k
  rw [show m 23 1 - 1 = mem 23 1 - 1 by rw [e23]]
  exact k
theorem cn_X4_rowsWith_6 {d : Nat} {P : Int → mmM → Prop} {mem : mmM} {x1 : Int} (h : mmT bX4_rowsWith d 0 0 (mQ 0 P) 0 [(2, 35), (0, x1), (9, 0), (9, 0), (9, 0)] [] mS mem) : con 0 bX4_rowsWith d [(2, 35), (0, x1)] mem P := mmC_of [(2, 35), (0, x1), (9, 0), (9, 0), (9, 0)] ok_X4_rowsWith.2.2.2.2 rfl (Nat.le_of_ble_eq_true rfl) h
theorem bk_X4_rowsWith_6_0 {d : Nat} {P : Int → mmM → Prop} {mem : mmM} {x1 : Int}
  (k1 : mmT bX4_rowsWith d 0 0 (mQ 0 P) 2 [(2, 35), (0, x1), (0, 0), (9, 0), (9, 0)] [] mS mem)
  : mmT bX4_rowsWith d 0 0 (mQ 0 P) 0 [(2, 35), (0, x1), (9, 0), (9, 0), (9, 0)] [] mS mem := by
  refine st_iconst dX4_rowsWith_0 ?_
  refine st_istore_n (i := 2) rfl (by decide) (lc' := [(2, 35), (0, x1), (0, 0), (9, 0), (9, 0)]) rfl dX4_rowsWith_1 ?_
  exact st_locals [(2, 35), (0, x1), (0, 0), (9, 0), (9, 0)] ⟨Or.inr rfl, Or.inr rfl, Or.inr rfl, Or.inl rfl, Or.inl rfl, trivial⟩ k1
theorem bk_X4_rowsWith_6_2 {d : Nat} {P : Int → mmM → Prop} {mem : mmM} {x1 x2 : Int}
  (k1 : x1 < x2 → mmT bX4_rowsWith d 0 0 (mQ 0 P) 137 [(2, 35), (0, x1), (9, 0), (9, 0), (9, 0)] [] mS mem)
  (k2 : x2 ≤ x1 → 7 ≤ x2 → mmT bX4_rowsWith d 0 0 (mQ 0 P) 137 [(2, 35), (0, x1), (9, 0), (9, 0), (9, 0)] [] mS mem)
  (k3 : x2 ≤ x1 → x2 < 7 → mmT bX4_rowsWith d 0 0 (mQ 0 P) 16 [(2, 35), (0, x1), (0, x2), (9, 0), (9, 0)] [] mS mem)
  (s1 : R32 x2 := by intros; first | omega | assumption | solve_by_elim)
  (s2 : R32 x1 := by intros; first | omega | assumption | solve_by_elim)
  : mmT bX4_rowsWith d 0 0 (mQ 0 P) 2 [(2, 35), (0, x1), (0, x2), (9, 0), (9, 0)] [] mS mem := by
  refine st_iload_n (i := 2) rfl rfl dX4_rowsWith_2 ?_
  refine st_iload_n (i := 1) rfl rfl dX4_rowsWith_3 ?_
  refine sr_icmp_gt 137 s1 s2 (by decide) dX4_rowsWith_4 (fun h1 => ?_) (fun h1 => ?_)
  · have h1 : x1 < x2 := by omega
    exact st_locals [(2, 35), (0, x1), (9, 0), (9, 0), (9, 0)] ⟨Or.inr rfl, Or.inr rfl, Or.inl rfl, Or.inl rfl, Or.inl rfl, trivial⟩ (k1 h1)
  · have h1 : x2 ≤ x1 := by omega
    refine st_iload_n (i := 2) rfl rfl dX4_rowsWith_7 ?_
    refine st_aload_n (i := 0) rfl (t := 0) rfl (by decide) dX4_rowsWith_8 ?_
    refine so_getA 35 4 fr_X4_23_4 rfl sh_35 fx_35_4 dX4_rowsWith_9 ?_
    refine so_alen (v := 7) 39 rfl sh_39 (by decide) rfl dX4_rowsWith_12 ?_
    refine sr_icmp_ge 137 s1 ⟨by decide, by decide⟩ (by decide) dX4_rowsWith_13 (fun h2 => ?_) (fun h2 => ?_)
    · have h2 : 7 ≤ x2 := by omega
      exact st_locals [(2, 35), (0, x1), (9, 0), (9, 0), (9, 0)] ⟨Or.inr rfl, Or.inr rfl, Or.inl rfl, Or.inl rfl, Or.inl rfl, trivial⟩ (k2 h1 h2)
    · have h2 : x2 < 7 := by omega
      exact st_locals [(2, 35), (0, x1), (0, x2), (9, 0), (9, 0)] ⟨Or.inr rfl, Or.inr rfl, Or.inr rfl, Or.inl rfl, Or.inl rfl, trivial⟩ (k3 h1 h2)
theorem bk_X4_rowsWith_6_16 {d : Nat} {P : Int → mmM → Prop} {mem : mmM} {x1 x2 : Int}
  (oi_0 : x2 = 6)
  (k1 : ¬ x2 = 0 → mmT bX4_rowsWith d 0 0 (mQ 0 P) 49 [(2, 35), (0, x1), (0, x2), (0, ((mem 23 1) - 1)), (9, 0)] [] mS (mset mem 46 (mem 23 1) 0))
  (k2 : x2 = 0 → mmT bX4_rowsWith d 0 0 (mQ 0 P) 49 [(2, 35), (0, x1), (0, x2), (0, ((mem 23 1) - 1)), (9, 0)] [] mS (mset mem 46 (mem 23 1) 1))
  (s1 : R32 x2 := by intros; first | omega | assumption | solve_by_elim)
  (s2 : ¬ x2 = 0 → 0 ≤ (mem 23 1) ∧ (mem 23 1) < 25 := by intros; first | omega | assumption | solve_by_elim)
  (s3 : x2 = 0 → 0 ≤ (mem 23 1) ∧ (mem 23 1) < 25 := by intros; first | omega | assumption | solve_by_elim)
  : mmT bX4_rowsWith d 0 0 (mQ 0 P) 16 [(2, 35), (0, x1), (0, x2), (9, 0), (9, 0)] [] mS mem := by
  refine st_aload_n (i := 0) rfl (t := 0) rfl (by decide) dX4_rowsWith_16 ?_
  refine so_getA 35 4 fr_X4_23_4 rfl sh_35 fx_35_4 dX4_rowsWith_17 ?_
  refine st_iload_n (i := 2) rfl rfl dX4_rowsWith_20 ?_
  refine so_aald (v := 46) 39 (by decide) rfl sh_39 (by decide) (by omega) (fun hfx => by rw [oi_0]; exact hfx _ fx_39_6) dX4_rowsWith_21 ?_
  refine st_aload_n (i := 0) rfl (t := 0) rfl (by decide) dX4_rowsWith_22 ?_
  refine so_getA 35 0 fr_X4_26_4 rfl sh_35 fx_35_0 dX4_rowsWith_23 ?_
  refine so_getI (v := (mem 23 1)) 23 1 fr_X4_36_8 rfl sh_23 rfl dX4_rowsWith_26 (fun r1 => ?_)
  refine st_iload_n (i := 2) rfl rfl dX4_rowsWith_29 ?_
  refine sr_if_ne 37 s1 (by decide) dX4_rowsWith_30 (fun h1 => ?_) (fun h1 => ?_)
  · have h1 : ¬ x2 = 0 := by omega
    refine st_lconst (v := 0) rfl dX4_rowsWith_37 ?_
    refine so_last 46 fr_46 rfl sh_46 (by decide) (s2 h1) ⟨by decide, by decide⟩ dX4_rowsWith_38 ?_
    refine st_aload_n (i := 0) rfl (t := 0) rfl (by decide) dX4_rowsWith_39 ?_
    refine so_getA 35 0 fr_X4_26_4 rfl sh_35 fx_35_0 dX4_rowsWith_40 ?_
    refine so_getI (v := (mem 23 1)) 23 1 fr_X4_36_8 rfl sh_23 rfl dX4_rowsWith_43 (fun r2 => ?_)
    refine st_iconst dX4_rowsWith_46 ?_
    refine st_isub dX4_rowsWith_47 ?_
    refine st_istore_n (i := 3) rfl (by decide) (lc' := [(2, 35), (0, x1), (0, x2), (0, ((mem 23 1) - 1)), (9, 0)]) rfl dX4_rowsWith_48 ?_
    exact st_locals [(2, 35), (0, x1), (0, x2), (0, ((mem 23 1) - 1)), (9, 0)] ⟨Or.inr rfl, Or.inr rfl, Or.inr rfl, Or.inr rfl, Or.inl rfl, trivial⟩ (k1 h1)
  · have h1 : x2 = 0 := by omega
    refine st_lconst (v := 1) rfl dX4_rowsWith_33 ?_
    refine st_goto 38 (by decide) dX4_rowsWith_34 ?_
    refine so_last 46 fr_46 rfl sh_46 (by decide) (s3 h1) ⟨by decide, by decide⟩ dX4_rowsWith_38 ?_
    refine st_aload_n (i := 0) rfl (t := 0) rfl (by decide) dX4_rowsWith_39 ?_
    refine so_getA 35 0 fr_X4_26_4 rfl sh_35 fx_35_0 dX4_rowsWith_40 ?_
    refine so_getI (v := (mem 23 1)) 23 1 fr_X4_36_8 rfl sh_23 rfl dX4_rowsWith_43 (fun r3 => ?_)
    refine st_iconst dX4_rowsWith_46 ?_
    refine st_isub dX4_rowsWith_47 ?_
    refine st_istore_n (i := 3) rfl (by decide) (lc' := [(2, 35), (0, x1), (0, x2), (0, ((mem 23 1) - 1)), (9, 0)]) rfl dX4_rowsWith_48 ?_
    exact st_locals [(2, 35), (0, x1), (0, x2), (0, ((mem 23 1) - 1)), (9, 0)] ⟨Or.inr rfl, Or.inr rfl, Or.inr rfl, Or.inr rfl, Or.inl rfl, trivial⟩ (k2 h1)
theorem bk_X4_rowsWith_6_49 {d : Nat} {P : Int → mmM → Prop} {mem : mmM} {x1 x2 x3 : Int}
  (oi_0 : x2 = 6)
  (oi_1 : (x2 - 1) = 5)
  (k1 : x3 < 0 → mmT bX4_rowsWith d 0 0 (mQ 0 P) 2 [(2, 35), (0, x1), (0, (x2 + 1)), (9, 0), (9, 0)] [] mS mem)
  (k2 : 0 ≤ x3 → x2 ≤ 0 → mmT bX4_rowsWith d 0 0 (mQ 0 P) 49 [(2, 35), (0, x1), (0, x2), (0, (x3 + (-1))), (9, 0)] [] mS (mset mem 46 x3 ((mem 46 (x3 + 1)) + 0)))
  (k3 : 0 ≤ x3 → 0 < x2 → ¬ (0 ≤ (mem 38 x3) ∧ (mem 38 x3) < (mem 23 1)) → mmT bX4_rowsWith d 0 0 (mQ 0 P) 49 [(2, 35), (0, x1), (0, x2), (0, (x3 + (-1))), (9, 0)] [] mS (mset mem 46 x3 ((mem 46 (x3 + 1)) + 0)))
  (k4 : 0 ≤ x3 → 0 < x2 → (0 ≤ (mem 38 x3) ∧ (mem 38 x3) < (mem 23 1)) → mmT bX4_rowsWith d 0 0 (mQ 0 P) 49 [(2, 35), (0, x1), (0, x2), (0, (x3 + (-1))), (9, 0)] [] mS (mset mem 46 x3 ((mem 46 (x3 + 1)) + (mem 45 ((mem 38 x3) + 1)))))
  (hd2 : 2 ≤ d := by omega)
  (s1 : R32 x3 := by intros; first | omega | assumption | solve_by_elim)
  (s2 : 0 ≤ x3 → R32 x2 := by intros; first | omega | assumption | solve_by_elim)
  (s3 : 0 ≤ x3 → x2 ≤ 0 → 0 ≤ (x3 + 1) ∧ (x3 + 1) < 25 := by intros; first | omega | assumption | solve_by_elim)
  (s4 : 0 ≤ x3 → x2 ≤ 0 → 0 ≤ x3 ∧ x3 < 25 := by intros; first | omega | assumption | solve_by_elim)
  (s5 : 0 ≤ x3 → x2 ≤ 0 → R64 ((mem 46 (x3 + 1)) + 0) := by intros; first | omega | assumption | solve_by_elim)
  (s6 : 0 ≤ x3 → 0 < x2 → 0 ≤ x3 ∧ x3 < 24 := by intros; first | omega | assumption | solve_by_elim)
  (s7 : 0 ≤ x3 → 0 < x2 → ¬ (0 ≤ (mem 38 x3) ∧ (mem 38 x3) < (mem 23 1)) → 0 ≤ (x3 + 1) ∧ (x3 + 1) < 25 := by intros; first | omega | assumption | solve_by_elim)
  (s8 : 0 ≤ x3 → 0 < x2 → ¬ (0 ≤ (mem 38 x3) ∧ (mem 38 x3) < (mem 23 1)) → 0 ≤ x3 ∧ x3 < 25 := by intros; first | omega | assumption | solve_by_elim)
  (s9 : 0 ≤ x3 → 0 < x2 → ¬ (0 ≤ (mem 38 x3) ∧ (mem 38 x3) < (mem 23 1)) → R64 ((mem 46 (x3 + 1)) + 0) := by intros; first | omega | assumption | solve_by_elim)
  (s10 : 0 ≤ x3 → 0 < x2 → (0 ≤ (mem 38 x3) ∧ (mem 38 x3) < (mem 23 1)) → 0 ≤ (x3 + 1) ∧ (x3 + 1) < 25 := by intros; first | omega | assumption | solve_by_elim)
  (s11 : 0 ≤ x3 → 0 < x2 → (0 ≤ (mem 38 x3) ∧ (mem 38 x3) < (mem 23 1)) → 0 ≤ ((mem 38 x3) + 1) ∧ ((mem 38 x3) + 1) < 25 := by intros; first | omega | assumption | solve_by_elim)
  (s12 : 0 ≤ x3 → 0 < x2 → (0 ≤ (mem 38 x3) ∧ (mem 38 x3) < (mem 23 1)) → 0 ≤ x3 ∧ x3 < 25 := by intros; first | omega | assumption | solve_by_elim)
  (s13 : 0 ≤ x3 → 0 < x2 → (0 ≤ (mem 38 x3) ∧ (mem 38 x3) < (mem 23 1)) → R64 ((mem 46 (x3 + 1)) + (mem 45 ((mem 38 x3) + 1))) := by intros; first | omega | assumption | solve_by_elim)
  : mmT bX4_rowsWith d 0 0 (mQ 0 P) 49 [(2, 35), (0, x1), (0, x2), (0, x3), (9, 0)] [] mS mem := by
  refine st_iload_n (i := 3) rfl rfl dX4_rowsWith_49 ?_
  refine sr_if_lt 131 s1 (by decide) dX4_rowsWith_50 (fun h1 => ?_) (fun h1 => ?_)
  · have h1 : x3 < 0 := by omega
    refine st_iinc (y := (x2 + 1)) (by decide) (i := 2) rfl rfl (lc' := [(2, 35), (0, x1), (0, (x2 + 1)), (0, x3), (9, 0)]) rfl dX4_rowsWith_131 ?_
    refine st_goto 2 (by decide) dX4_rowsWith_134 ?_
    exact st_locals [(2, 35), (0, x1), (0, (x2 + 1)), (9, 0), (9, 0)] ⟨Or.inr rfl, Or.inr rfl, Or.inr rfl, Or.inl rfl, Or.inl rfl, trivial⟩ (k1 h1)
  · have h1 : 0 ≤ x3 := by omega
    refine st_iload_n (i := 2) rfl rfl dX4_rowsWith_53 ?_
    refine sr_if_le 77 (s2 h1) (by decide) dX4_rowsWith_54 (fun h2 => ?_) (fun h2 => ?_)
    · have h2 : x2 ≤ 0 := by omega
      refine st_iconst dX4_rowsWith_77 ?_
      refine st_istore (by decide) (lc' := [(2, 35), (0, x1), (0, x2), (0, x3), (0, 0)]) rfl dX4_rowsWith_78 ?_
      refine st_aload_n (i := 0) rfl (t := 0) rfl (by decide) dX4_rowsWith_80 ?_
      refine so_getA 35 4 fr_X4_23_4 rfl sh_35 fx_35_4 dX4_rowsWith_81 ?_
      refine st_iload_n (i := 2) rfl rfl dX4_rowsWith_84 ?_
      refine so_aald (v := 46) 39 (by decide) rfl sh_39 (by decide) (by omega) (fun hfx => by rw [oi_0]; exact hfx _ fx_39_6) dX4_rowsWith_85 ?_
      refine st_iload_n (i := 3) rfl rfl dX4_rowsWith_86 ?_
      refine st_aload_n (i := 0) rfl (t := 0) rfl (by decide) dX4_rowsWith_87 ?_
      refine so_getA 35 4 fr_X4_23_4 rfl sh_35 fx_35_4 dX4_rowsWith_88 ?_
      refine st_iload_n (i := 2) rfl rfl dX4_rowsWith_91 ?_
      refine so_aald (v := 46) 39 (by decide) rfl sh_39 (by decide) (by omega) (fun hfx => by rw [oi_0]; exact hfx _ fx_39_6) dX4_rowsWith_92 ?_
      refine st_iload_n (i := 3) rfl rfl dX4_rowsWith_93 ?_
      refine st_iconst dX4_rowsWith_94 ?_
      refine st_iadd dX4_rowsWith_95 ?_
      refine so_lald (v := (mem 46 (x3 + 1))) 46 rfl sh_46 (by decide) (s3 h1 h2) rfl dX4_rowsWith_96 (fun r1 => ?_)
      refine st_iload rfl dX4_rowsWith_97 ?_
      refine sr_if_eq 122 ⟨by decide, by decide⟩ (by decide) dX4_rowsWith_99 (fun h => ?_) (fun h => ?_)
      rotate_left
      · exact absurd h (by decide)
      refine st_lconst (v := 0) rfl dX4_rowsWith_122 ?_
      refine st_ladd dX4_rowsWith_123 ?_
      refine so_last 46 fr_46 rfl sh_46 (by decide) (s4 h1 h2) (s5 h1 h2) dX4_rowsWith_124 ?_
      refine st_iinc (y := (x3 + (-1))) (by decide) (i := 3) rfl rfl (lc' := [(2, 35), (0, x1), (0, x2), (0, (x3 + (-1))), (0, 0)]) rfl dX4_rowsWith_125 ?_
      refine st_goto 49 (by decide) dX4_rowsWith_128 ?_
      exact st_locals [(2, 35), (0, x1), (0, x2), (0, (x3 + (-1))), (9, 0)] ⟨Or.inr rfl, Or.inr rfl, Or.inr rfl, Or.inr rfl, Or.inl rfl, trivial⟩ (k2 h1 h2)
    · have h2 : 0 < x2 := by omega
      refine st_aload_n (i := 0) rfl (t := 0) rfl (by decide) dX4_rowsWith_57 ?_
      refine so_getA 35 0 fr_X4_26_4 rfl sh_35 fx_35_0 dX4_rowsWith_58 ?_
      refine st_aload_n (i := 0) rfl (t := 0) rfl (by decide) dX4_rowsWith_61 ?_
      refine so_getA 35 3 fr_X4_18_4 rfl sh_35 fx_35_3 dX4_rowsWith_62 ?_
      refine st_iload_n (i := 3) rfl rfl dX4_rowsWith_65 ?_
      refine so_iald (v := (mem 38 x3)) 38 rfl sh_38 (by decide) (s6 h1 h2) rfl dX4_rowsWith_66 (fun r2 => ?_)
      refine st_callV (kc2 := 0) (ks2 := 0) (av := [(0, (mem 38 x3))]) 23 8 mr_X4_61 ok_X8_has (c_X8_has mem (mem 38 x3) (r2)) rfl sh_23 ⟨_, rfl, rfl, by decide⟩ rfl rfl hd2 (Nat.le_refl 0) (Nat.le_refl 0) (Nat.le_of_ble_eq_true rfl) dX4_rowsWith_67 (mQ.elim fun v1 m1 hp => ?_)
      obtain ⟨hpv, hpm⟩ := hp
      subst hpv
      have hpm := hpm.symm
      subst hpm
      refine so_ifeqB 77 (by decide) dX4_rowsWith_70 (fun h3 => ?_) (fun h3 => ?_)
      · have h3 : ¬ (0 ≤ (mem 38 x3) ∧ (mem 38 x3) < (mem 23 1)) := h3
        refine st_iconst dX4_rowsWith_77 ?_
        refine st_istore (by decide) (lc' := [(2, 35), (0, x1), (0, x2), (0, x3), (0, 0)]) rfl dX4_rowsWith_78 ?_
        refine st_aload_n (i := 0) rfl (t := 0) rfl (by decide) dX4_rowsWith_80 ?_
        refine so_getA 35 4 fr_X4_23_4 rfl sh_35 fx_35_4 dX4_rowsWith_81 ?_
        refine st_iload_n (i := 2) rfl rfl dX4_rowsWith_84 ?_
        refine so_aald (v := 46) 39 (by decide) rfl sh_39 (by decide) (by omega) (fun hfx => by rw [oi_0]; exact hfx _ fx_39_6) dX4_rowsWith_85 ?_
        refine st_iload_n (i := 3) rfl rfl dX4_rowsWith_86 ?_
        refine st_aload_n (i := 0) rfl (t := 0) rfl (by decide) dX4_rowsWith_87 ?_
        refine so_getA 35 4 fr_X4_23_4 rfl sh_35 fx_35_4 dX4_rowsWith_88 ?_
        refine st_iload_n (i := 2) rfl rfl dX4_rowsWith_91 ?_
        refine so_aald (v := 46) 39 (by decide) rfl sh_39 (by decide) (by omega) (fun hfx => by rw [oi_0]; exact hfx _ fx_39_6) dX4_rowsWith_92 ?_
        refine st_iload_n (i := 3) rfl rfl dX4_rowsWith_93 ?_
        refine st_iconst dX4_rowsWith_94 ?_
        refine st_iadd dX4_rowsWith_95 ?_
        refine so_lald (v := (mem 46 (x3 + 1))) 46 rfl sh_46 (by decide) (s7 h1 h2 h3) rfl dX4_rowsWith_96 (fun r3 => ?_)
        refine st_iload rfl dX4_rowsWith_97 ?_
        refine sr_if_eq 122 ⟨by decide, by decide⟩ (by decide) dX4_rowsWith_99 (fun h => ?_) (fun h => ?_)
        rotate_left
        · exact absurd h (by decide)
        refine st_lconst (v := 0) rfl dX4_rowsWith_122 ?_
        refine st_ladd dX4_rowsWith_123 ?_
        refine so_last 46 fr_46 rfl sh_46 (by decide) (s8 h1 h2 h3) (s9 h1 h2 h3) dX4_rowsWith_124 ?_
        refine st_iinc (y := (x3 + (-1))) (by decide) (i := 3) rfl rfl (lc' := [(2, 35), (0, x1), (0, x2), (0, (x3 + (-1))), (0, 0)]) rfl dX4_rowsWith_125 ?_
        refine st_goto 49 (by decide) dX4_rowsWith_128 ?_
        exact st_locals [(2, 35), (0, x1), (0, x2), (0, (x3 + (-1))), (9, 0)] ⟨Or.inr rfl, Or.inr rfl, Or.inr rfl, Or.inr rfl, Or.inl rfl, trivial⟩ (k3 h1 h2 h3)
      · have h3 : (0 ≤ (mem 38 x3) ∧ (mem 38 x3) < (mem 23 1)) := h3
        refine st_iconst dX4_rowsWith_73 ?_
        refine st_goto 78 (by decide) dX4_rowsWith_74 ?_
        refine st_istore (by decide) (lc' := [(2, 35), (0, x1), (0, x2), (0, x3), (0, 1)]) rfl dX4_rowsWith_78 ?_
        refine st_aload_n (i := 0) rfl (t := 0) rfl (by decide) dX4_rowsWith_80 ?_
        refine so_getA 35 4 fr_X4_23_4 rfl sh_35 fx_35_4 dX4_rowsWith_81 ?_
        refine st_iload_n (i := 2) rfl rfl dX4_rowsWith_84 ?_
        refine so_aald (v := 46) 39 (by decide) rfl sh_39 (by decide) (by omega) (fun hfx => by rw [oi_0]; exact hfx _ fx_39_6) dX4_rowsWith_85 ?_
        refine st_iload_n (i := 3) rfl rfl dX4_rowsWith_86 ?_
        refine st_aload_n (i := 0) rfl (t := 0) rfl (by decide) dX4_rowsWith_87 ?_
        refine so_getA 35 4 fr_X4_23_4 rfl sh_35 fx_35_4 dX4_rowsWith_88 ?_
        refine st_iload_n (i := 2) rfl rfl dX4_rowsWith_91 ?_
        refine so_aald (v := 46) 39 (by decide) rfl sh_39 (by decide) (by omega) (fun hfx => by rw [oi_0]; exact hfx _ fx_39_6) dX4_rowsWith_92 ?_
        refine st_iload_n (i := 3) rfl rfl dX4_rowsWith_93 ?_
        refine st_iconst dX4_rowsWith_94 ?_
        refine st_iadd dX4_rowsWith_95 ?_
        refine so_lald (v := (mem 46 (x3 + 1))) 46 rfl sh_46 (by decide) (s10 h1 h2 h3) rfl dX4_rowsWith_96 (fun r4 => ?_)
        refine st_iload rfl dX4_rowsWith_97 ?_
        refine sr_if_eq 122 ⟨by decide, by decide⟩ (by decide) dX4_rowsWith_99 (fun h => ?_) (fun h => ?_)
        · exact absurd h (by decide)
        refine st_aload_n (i := 0) rfl (t := 0) rfl (by decide) dX4_rowsWith_102 ?_
        refine so_getA 35 4 fr_X4_23_4 rfl sh_35 fx_35_4 dX4_rowsWith_103 ?_
        refine st_iload_n (i := 2) rfl rfl dX4_rowsWith_106 ?_
        refine st_iconst dX4_rowsWith_107 ?_
        refine st_isub dX4_rowsWith_108 ?_
        refine so_aald (v := 45) 39 (by decide) rfl sh_39 (by decide) (by omega) (fun hfx => by rw [oi_1]; exact hfx _ fx_39_5) dX4_rowsWith_109 ?_
        refine st_aload_n (i := 0) rfl (t := 0) rfl (by decide) dX4_rowsWith_110 ?_
        refine so_getA 35 3 fr_X4_18_4 rfl sh_35 fx_35_3 dX4_rowsWith_111 ?_
        refine st_iload_n (i := 3) rfl rfl dX4_rowsWith_114 ?_
        refine so_iald (v := (mem 38 x3)) 38 rfl sh_38 (by decide) (s6 h1 h2) rfl dX4_rowsWith_115 (fun r5 => ?_)
        refine st_iconst dX4_rowsWith_116 ?_
        refine st_iadd dX4_rowsWith_117 ?_
        refine so_lald (v := (mem 45 ((mem 38 x3) + 1))) 45 rfl sh_45 (by decide) (s11 h1 h2 h3) rfl dX4_rowsWith_118 (fun r6 => ?_)
        refine st_goto 123 (by decide) dX4_rowsWith_119 ?_
        refine st_ladd dX4_rowsWith_123 ?_
        refine so_last 46 fr_46 rfl sh_46 (by decide) (s12 h1 h2 h3) (s13 h1 h2 h3) dX4_rowsWith_124 ?_
        refine st_iinc (y := (x3 + (-1))) (by decide) (i := 3) rfl rfl (lc' := [(2, 35), (0, x1), (0, x2), (0, (x3 + (-1))), (0, 1)]) rfl dX4_rowsWith_125 ?_
        refine st_goto 49 (by decide) dX4_rowsWith_128 ?_
        exact st_locals [(2, 35), (0, x1), (0, x2), (0, (x3 + (-1))), (9, 0)] ⟨Or.inr rfl, Or.inr rfl, Or.inr rfl, Or.inr rfl, Or.inl rfl, trivial⟩ (k4 h1 h2 h3)
theorem bk_X4_rowsWith_6_137 {d : Nat} {P : Int → mmM → Prop} {mem : mmM} {x1 : Int}
  (oi_0 : x1 = 6)
  (q1 : x1 < 0 → P (-1) mem)
  (q2 : 0 ≤ x1 → 7 ≤ x1 → P (-1) mem)
  (q3 : 0 ≤ x1 → x1 < 7 → P (min 1000000000 (mem 46 0)) mem)
  (hd1 : 1 ≤ d := by omega)
  (s1 : R32 x1 := by intros; first | omega | assumption | solve_by_elim)
  : mmT bX4_rowsWith d 0 0 (mQ 0 P) 137 [(2, 35), (0, x1), (9, 0), (9, 0), (9, 0)] [] mS mem := by
  refine st_iload_n (i := 1) rfl rfl dX4_rowsWith_137 ?_
  refine sr_if_lt 168 s1 (by decide) dX4_rowsWith_138 (fun h1 => ?_) (fun h1 => ?_)
  · have h1 : x1 < 0 := by omega
    refine st_iconst dX4_rowsWith_168 ?_
    exact st_ireturn rfl dX4_rowsWith_169 (mQ.ret (q1 h1))
  · have h1 : 0 ≤ x1 := by omega
    refine st_iload_n (i := 1) rfl rfl dX4_rowsWith_141 ?_
    refine st_aload_n (i := 0) rfl (t := 0) rfl (by decide) dX4_rowsWith_142 ?_
    refine so_getA 35 4 fr_X4_23_4 rfl sh_35 fx_35_4 dX4_rowsWith_143 ?_
    refine so_alen (v := 7) 39 rfl sh_39 (by decide) rfl dX4_rowsWith_146 ?_
    refine sr_icmp_ge 168 s1 ⟨by decide, by decide⟩ (by decide) dX4_rowsWith_147 (fun h2 => ?_) (fun h2 => ?_)
    · have h2 : 7 ≤ x1 := by omega
      refine st_iconst dX4_rowsWith_168 ?_
      exact st_ireturn rfl dX4_rowsWith_169 (mQ.ret (q2 h1 h2))
    · have h2 : x1 < 7 := by omega
      refine st_ldc2 cw_X4_65 dX4_rowsWith_150 ?_
      refine st_aload_n (i := 0) rfl (t := 0) rfl (by decide) dX4_rowsWith_153 ?_
      refine so_getA 35 4 fr_X4_23_4 rfl sh_35 fx_35_4 dX4_rowsWith_154 ?_
      refine st_iload_n (i := 1) rfl rfl dX4_rowsWith_157 ?_
      refine so_aald (v := 46) 39 (by decide) rfl sh_39 (by decide) (by omega) (fun hfx => by rw [oi_0]; exact hfx _ fx_39_6) dX4_rowsWith_158 ?_
      refine st_iconst dX4_rowsWith_159 ?_
      refine so_lald (v := (mem 46 0)) 46 rfl sh_46 (by decide) ⟨by decide, by decide⟩ rfl dX4_rowsWith_160 (fun r1 => ?_)
      refine sr_mminl ⟨by decide, by decide⟩ r1 mr_X4_67 ms_minj mi_Math mc_minj hd1 (Nat.le_of_ble_eq_true rfl) dX4_rowsWith_161 ?_
      refine st_l2i dX4_rowsWith_164 ?_
      refine st_goto 169 (by decide) dX4_rowsWith_165 ?_
      exact st_ireturn rfl dX4_rowsWith_169 (mQ.ret (q3 h1 h2))
theorem rX_ex_6 (mem m : mmM) (x1 : Int) (hx : x1 = 6) (h : rwOK mem 7 m) (hn : 0 ≤ mem 23 1) : mmT bX4_rowsWith 3 0 0 (mQ 0 (rwQ mem x1)) 137 [(2, 35), (0, x1), (9, 0), (9, 0), (9, 0)] [] mS m := by
  refine bk_X4_rowsWith_6_137 hx (fun g => by omega) (fun g g2 => by omega) (fun g g2 => ⟨?_, h.1⟩)
  have := h.2 6 (by decide) 0 (by omega) hn
  rw [hx]
  exact congrArg (min 1000000000) this
theorem rX_in_6 (mem m : mmM) (x1 : Int) (h : rwOK mem 6 m) (hn : 0 ≤ mem 23 1 ∧ mem 23 1 ≤ 24) (hx : R32 x1) (nx : ∀ m', rwOK mem 7 m' → mmT bX4_rowsWith 3 0 0 (mQ 0 (rwQ mem x1)) 2 [(2, 35), (0, x1), (0, 7), (9, 0), (9, 0)] [] mS m') : mmT bX4_rowsWith 3 0 0 (mQ 0 (rwQ mem x1)) 16 [(2, 35), (0, x1), (0, 6), (9, 0), (9, 0)] [] mS m := by
  have e23 : m 23 = mem 23 := h.1 23 (by omega)
  have b0 : ∀ s, 0 ≤ s → 0 ≤ rwR (mem 23 1) (mem 38) 6 s ∧ rwR (mem 23 1) (mem 38) 6 s ≤ 191102976 := fun s s0 => by
    have := rwR_bnd (to := mem 38) hn.2 6 s0
    have := p24_6 (j := 6) (by decide)
    omega
  have b1 : ∀ s, 0 ≤ s → 0 ≤ rwR (mem 23 1) (mem 38) 5 s ∧ rwR (mem 23 1) (mem 38) 5 s ≤ 191102976 := fun s s0 => by
    have := rwR_bnd (to := mem 38) hn.2 5 s0
    have := p24_6 (j := 5) (by decide)
    omega
  refine bk_X4_rowsWith_6_16 rfl (fun g => ?_) (fun g => absurd g (by decide)) (s2 := fun _ => by rw [e23]; omega) (s3 := fun g => absurd g (by decide))
  have key : ∀ (t : Nat) (m' : mmM), (t : Int) ≤ mem 23 1 → rwFr mem m' → (∀ j, j < 6 → ∀ s, 0 ≤ s → s ≤ mem 23 1 → m' (40 + j) s = rwR (mem 23 1) (mem 38) j s) → (∀ s, (t : Int) ≤ s → s ≤ mem 23 1 → m' 46 s = rwR (mem 23 1) (mem 38) 6 s) → mmT bX4_rowsWith 3 0 0 (mQ 0 (rwQ mem x1)) 49 [(2, 35), (0, x1), (0, 6), (0, (t : Int) - 1), (9, 0)] [] mS m' := by
    intro t
    induction t with
    | zero =>
      intro m' ht f q r
      refine bk_X4_rowsWith_6_49 rfl rfl (fun g => nx m' ⟨f, fun j hj s s0 s1 => ?_⟩) (fun g => by omega) (fun g => by omega) (fun g => by omega) (s3 := fun g => by omega) (s4 := fun g => by omega) (s5 := fun g => by omega) (s6 := fun g => by omega) (s7 := fun g => by omega) (s8 := fun g => by omega) (s9 := fun g => by omega) (s10 := fun g => by omega) (s11 := fun g => by omega) (s12 := fun g => by omega) (s13 := fun g => by omega)
      rcases Nat.lt_or_ge j 6 with z | z
      · exact q j z s s0 s1
      · rw [show j = 6 by omega]
        exact r s (by omega) s1
    | succ t ih =>
      intro m' ht f q r
      have e38 : m' 38 = mem 38 := f 38 (by omega)
      have e23' : m' 23 = mem 23 := f 23 (by omega)
      have es : ((t + 1 : Nat) : Int) - 1 = (t : Int) := by omega
      rw [es]
      have e1 : m' 46 ((t : Int) + 1) = rwR (mem 23 1) (mem 38) 6 ((t : Int) + 1) := r _ (by omega) (by omega)
      have st := rwR_step (mem 23 1) (mem 38) 5 (s := (t : Int)) (by omega)
      have c1 := b0 ((t : Int) + 1) (by omega)
      have nxt : ∀ v, v = rwR (mem 23 1) (mem 38) 6 (t : Int) → mmT bX4_rowsWith 3 0 0 (mQ 0 (rwQ mem x1)) 49 [(2, 35), (0, x1), (0, 6), (0, (t : Int) + (-1)), (9, 0)] [] mS (mset m' 46 (t : Int) v) := by
        intro v hv
        rw [show (t : Int) + (-1) = (t : Int) - 1 by omega]
        refine ih _ (by omega) (fun a ha => by rw [mset_ne (by omega)]; exact f a ha) (fun j hj s s0 s1 => by rw [mset_ne (by omega)]; exact q j hj s s0 s1) (fun s s0 s1 => ?_)
        rw [mset_at]
        split
        · rename_i e
          rw [hv, e]
        · exact r s (by omega) s1
      have e2 : (0 ≤ mem 38 (t : Int) ∧ mem 38 (t : Int) < mem 23 1) → m' 45 (mem 38 (t : Int) + 1) = rwR (mem 23 1) (mem 38) 5 (mem 38 (t : Int) + 1) := fun z => q 5 (by decide) _ (by omega) (by omega)
      refine bk_X4_rowsWith_6_49 rfl rfl (fun g => by omega) (fun g g2 => absurd g2 (by decide)) (fun g g2 g3 => nxt _ ?_) (fun g g2 g3 => nxt _ ?_) (s3 := fun g g2 => absurd g2 (by decide)) (s4 := fun g g2 => absurd g2 (by decide)) (s5 := fun g g2 => absurd g2 (by decide)) (s6 := fun g g2 => by omega) (s7 := fun g g2 _ => by omega) (s8 := fun g g2 _ => by omega) (s9 := fun g g2 _ => by rw [e1]; omega) (s10 := fun g g2 _ => by omega) (s11 := fun g g2 z => by rw [e38, e23'] at z; rw [e38]; omega) (s12 := fun g g2 _ => by omega) (s13 := fun g g2 z => by
        rw [e38, e23'] at z
        have := b1 (mem 38 (t : Int) + 1) (by omega)
        rw [e38, e1, e2 z]
        omega)
      · rw [e38, e23'] at g3
        rw [e1, st, if_neg g3]
      · rw [e38, e23'] at g3
        rw [e38, e1, e2 g3, st, if_pos g3]
  have k := key (mem 23 1).toNat (mset m 46 (m 23 1) 0) (by omega) (fun a ha => by rw [mset_ne (by omega)]; exact h.1 a ha) (fun j hj s s0 s1 => by rw [mset_ne (by omega)]; exact h.2 j hj s s0 s1) (fun s s0 s1 => by rw [show s = mem 23 1 by omega, mset_at, e23, if_pos rfl, rwR_end, if_neg (by decide)])
  rw [show (((mem 23 1).toNat : Nat) : Int) = mem 23 1 by omega] at k
  rw [show m 23 1 - 1 = mem 23 1 - 1 by rw [e23]]
  exact k
theorem rX_2_7 (mem m : mmM) (x1 : Int) (h1 : 0 ≤ x1 ∧ x1 ≤ 6) (hx : 6 ≤ x1) (h : rwOK mem 7 m) (hn : 0 ≤ mem 23 1 ∧ mem 23 1 ≤ 24) : mmT bX4_rowsWith 3 0 0 (mQ 0 (rwQ mem x1)) 2 [(2, 35), (0, x1), (0, 7), (9, 0), (9, 0)] [] mS m :=
  bk_X4_rowsWith_6_2 (fun g => rX_ex_6 mem m x1 (by omega) h hn.1) (fun g => by omega) (fun g => by omega)
theorem rX_2_6 (mem m : mmM) (x1 : Int) (h1 : 0 ≤ x1 ∧ x1 ≤ 6) (hx : 5 ≤ x1) (h : rwOK mem 6 m) (hn : 0 ≤ mem 23 1 ∧ mem 23 1 ≤ 24) : mmT bX4_rowsWith 3 0 0 (mQ 0 (rwQ mem x1)) 2 [(2, 35), (0, x1), (0, 6), (9, 0), (9, 0)] [] mS m :=
  bk_X4_rowsWith_6_2 (fun g => rX_ex_5 mem m x1 (by omega) h hn.1) (fun g g2 => by omega) (fun g _ => rX_in_6 mem m x1 h hn (by omega) (fun m' h' => rX_2_7 mem m' x1 h1 g h' hn))
theorem rX_2_5 (mem m : mmM) (x1 : Int) (h1 : 0 ≤ x1 ∧ x1 ≤ 6) (hx : 4 ≤ x1) (h : rwOK mem 5 m) (hn : 0 ≤ mem 23 1 ∧ mem 23 1 ≤ 24) : mmT bX4_rowsWith 3 0 0 (mQ 0 (rwQ mem x1)) 2 [(2, 35), (0, x1), (0, 5), (9, 0), (9, 0)] [] mS m :=
  bk_X4_rowsWith_5_2 (fun g => rX_ex_4 mem m x1 (by omega) h hn.1) (fun g g2 => by omega) (fun g _ => rX_in_5 mem m x1 h hn (by omega) (fun m' h' => rX_2_6 mem m' x1 h1 g h' hn))
theorem rX_2_4 (mem m : mmM) (x1 : Int) (h1 : 0 ≤ x1 ∧ x1 ≤ 6) (hx : 3 ≤ x1) (h : rwOK mem 4 m) (hn : 0 ≤ mem 23 1 ∧ mem 23 1 ≤ 24) : mmT bX4_rowsWith 3 0 0 (mQ 0 (rwQ mem x1)) 2 [(2, 35), (0, x1), (0, 4), (9, 0), (9, 0)] [] mS m :=
  bk_X4_rowsWith_4_2 (fun g => rX_ex_3 mem m x1 (by omega) h hn.1) (fun g g2 => by omega) (fun g _ => rX_in_4 mem m x1 h hn (by omega) (fun m' h' => rX_2_5 mem m' x1 h1 g h' hn))
theorem rX_2_3 (mem m : mmM) (x1 : Int) (h1 : 0 ≤ x1 ∧ x1 ≤ 6) (hx : 2 ≤ x1) (h : rwOK mem 3 m) (hn : 0 ≤ mem 23 1 ∧ mem 23 1 ≤ 24) : mmT bX4_rowsWith 3 0 0 (mQ 0 (rwQ mem x1)) 2 [(2, 35), (0, x1), (0, 3), (9, 0), (9, 0)] [] mS m :=
  bk_X4_rowsWith_3_2 (fun g => rX_ex_2 mem m x1 (by omega) h hn.1) (fun g g2 => by omega) (fun g _ => rX_in_3 mem m x1 h hn (by omega) (fun m' h' => rX_2_4 mem m' x1 h1 g h' hn))
theorem rX_2_2 (mem m : mmM) (x1 : Int) (h1 : 0 ≤ x1 ∧ x1 ≤ 6) (hx : 1 ≤ x1) (h : rwOK mem 2 m) (hn : 0 ≤ mem 23 1 ∧ mem 23 1 ≤ 24) : mmT bX4_rowsWith 3 0 0 (mQ 0 (rwQ mem x1)) 2 [(2, 35), (0, x1), (0, 2), (9, 0), (9, 0)] [] mS m :=
  bk_X4_rowsWith_2_2 (fun g => rX_ex_1 mem m x1 (by omega) h hn.1) (fun g g2 => by omega) (fun g _ => rX_in_2 mem m x1 h hn (by omega) (fun m' h' => rX_2_3 mem m' x1 h1 g h' hn))
theorem rX_2_1 (mem m : mmM) (x1 : Int) (h1 : 0 ≤ x1 ∧ x1 ≤ 6) (hx : 0 ≤ x1) (h : rwOK mem 1 m) (hn : 0 ≤ mem 23 1 ∧ mem 23 1 ≤ 24) : mmT bX4_rowsWith 3 0 0 (mQ 0 (rwQ mem x1)) 2 [(2, 35), (0, x1), (0, 1), (9, 0), (9, 0)] [] mS m :=
  bk_X4_rowsWith_1_2 (fun g => rX_ex_0 mem m x1 (by omega) h hn.1) (fun g g2 => by omega) (fun g _ => rX_in_1 mem m x1 h hn (by omega) (fun m' h' => rX_2_2 mem m' x1 h1 g h' hn))
theorem c_X4_rowsWith (mem : mmM) (x1 : Int) (h1 : 0 ≤ x1 ∧ x1 ≤ 6) (hn : 0 ≤ mem 23 1 ∧ mem 23 1 ≤ 24) : con 0 bX4_rowsWith 3 [(2, 35), (0, x1)] mem (rwQ mem x1) := by
  refine cn_X4_rowsWith_0 (bk_X4_rowsWith_0_0 ?_)
  have h0 : rwOK mem 0 mem := ⟨fun _ _ => rfl, fun j hj => by omega⟩
  exact bk_X4_rowsWith_0_2 (fun g => by omega) (fun g g2 => absurd g2 (by decide)) (fun g _ => rX_in_0 mem mem x1 h0 hn (by omega) (fun m' h' => rX_2_1 mem m' x1 h1 g h' hn))
theorem cn_X11_rows {d : Nat} {P : Int → mmM → Prop} {mem : mmM} {x1 : Int} (h : mmT bX11_rows d 0 0 (mQ 0 P) 0 [(2, 0), (0, x1)] [] mS mem) : con 0 bX11_rows d [(2, 0), (0, x1)] mem P := mmC_of [(2, 0), (0, x1)] ok_X11_rows.2.2.2.2 rfl (Nat.le_of_ble_eq_true rfl) h
theorem bk_X11_rows_0 {d : Nat} {d1 : Nat} {P1 : Int → mmM → Prop} {P : Int → mmM → Prop} {mem : mmM} {x1 : Int}
  (c1 : ¬ (mem 23 1) = 0 → 0 ≤ x1 → x1 ≤ 6 → con 0 bX4_rowsWith d1 [(2, 35), (0, x1)] mem P1)
  (q1 : (mem 23 1) = 0 → P (-1) mem)
  (q2 : ¬ (mem 23 1) = 0 → x1 < 0 → P (-1) mem)
  (q3 : ¬ (mem 23 1) = 0 → 0 ≤ x1 → x1 ≤ 6 → ∀ (v1 : Int), ∀ (m1 : mmM), P1 v1 m1 → P v1 m1)
  (q4 : ¬ (mem 23 1) = 0 → 0 ≤ x1 → 6 < x1 → P (-1) mem)
  (hd_d1 : d1 + 1 ≤ d := by omega)
  (s1 : ¬ (mem 23 1) = 0 → R32 x1 := by intros; first | omega | assumption | solve_by_elim)
  : mmT bX11_rows d 0 0 (mQ 0 P) 0 [(2, 0), (0, x1)] [] mS mem := by
  refine st_aload_n (i := 0) rfl (t := 0) rfl (by decide) dX11_rows_0 ?_
  refine so_getA 0 4 fr_X11_42_10 rfl sh_0 fx_0_4 dX11_rows_1 ?_
  refine so_getI (v := (mem 23 1)) 23 1 fr_X11_135_8 rfl sh_23 rfl dX11_rows_4 (fun r1 => ?_)
  refine sr_if_eq 20 r1 (by decide) dX11_rows_7 (fun h1 => ?_) (fun h1 => ?_)
  · have h1 : (mem 23 1) = 0 := by omega
    refine st_iconst dX11_rows_20 ?_
    refine st_goto 32 (by decide) dX11_rows_21 ?_
    exact st_ireturn rfl dX11_rows_32 (mQ.ret (q1 h1))
  · have h1 : ¬ (mem 23 1) = 0 := by omega
    refine st_iload_n (i := 1) rfl rfl dX11_rows_10 ?_
    refine sr_if_lt 20 (s1 h1) (by decide) dX11_rows_11 (fun h2 => ?_) (fun h2 => ?_)
    · have h2 : x1 < 0 := by omega
      refine st_iconst dX11_rows_20 ?_
      refine st_goto 32 (by decide) dX11_rows_21 ?_
      exact st_ireturn rfl dX11_rows_32 (mQ.ret (q2 h1 h2))
    · have h2 : 0 ≤ x1 := by omega
      refine st_iload_n (i := 1) rfl rfl dX11_rows_14 ?_
      refine st_bipush rfl dX11_rows_15 ?_
      refine sr_icmp_le 24 (s1 h1) ⟨by decide, by decide⟩ (by decide) dX11_rows_17 (fun h3 => ?_) (fun h3 => ?_)
      · have h3 : x1 ≤ 6 := by omega
        refine st_aload_n (i := 0) rfl (t := 0) rfl (by decide) dX11_rows_24 ?_
        refine so_getA 0 5 fr_X11_51_10 rfl sh_0 fx_0_5 dX11_rows_25 ?_
        refine st_iload_n (i := 1) rfl rfl dX11_rows_28 ?_
        refine st_callV (kc2 := 0) (ks2 := 0) (av := [(0, x1)]) 35 4 mr_X11_257 ok_X4_rowsWith (c1 h1 h2 h3) rfl sh_35 ⟨_, rfl, rfl, by decide⟩ rfl rfl hd_d1 (Nat.le_refl 0) (Nat.le_refl 0) (Nat.le_of_ble_eq_true rfl) dX11_rows_29 (mQ.elim fun v1 m1 p1 => ?_)
        exact st_ireturn rfl dX11_rows_32 (mQ.ret (q3 h1 h2 h3 v1 m1 p1))
      · have h3 : 6 < x1 := by omega
        refine st_iconst dX11_rows_20 ?_
        refine st_goto 32 (by decide) dX11_rows_21 ?_
        exact st_ireturn rfl dX11_rows_32 (mQ.ret (q4 h1 h2 h3))
theorem c_X11_rows (mem : mmM) (x1 : Int) (h1 : R32 x1) (hn : 0 ≤ mem 23 1 ∧ mem 23 1 ≤ 24) : con 0 bX11_rows 4 [(2, 0), (0, x1)] mem (fun v m => v = (if mem 23 1 = 0 ∨ ¬ (0 ≤ x1 ∧ x1 ≤ 6) then -1 else rwR (mem 23 1) (mem 38) x1.toNat 0) ∧ rwFr mem m) := by
  refine cn_X11_rows (bk_X11_rows_0 (fun g g2 g3 => c_X4_rowsWith mem x1 ⟨g2, g3⟩ hn) (fun g => ⟨?_, fun _ _ => rfl⟩) (fun g g2 => ⟨?_, fun _ _ => rfl⟩) (fun g g2 g3 v m q => ⟨?_, q.2⟩) (fun g g2 g3 => ⟨?_, fun _ _ => rfl⟩))
  · rw [if_pos (by omega)]
  · rw [if_pos (by omega)]
  · rw [if_neg (by omega)]
    have b := rwR_bnd (to := mem 38) hn.2 x1.toNat (s := 0) (by omega)
    have c := p24_6 (j := x1.toNat) (by omega)
    have e := q.1
    omega
  · rw [if_pos (by omega)]
