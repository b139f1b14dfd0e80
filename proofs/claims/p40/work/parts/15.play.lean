theorem dnTo_succ (p : Int → Bool) (k : Nat) : dnTo p (k + 1) = if p k = true then (k : Int) else dnTo p k := rfl
theorem upFrom_succ (p : Int → Bool) (i : Int) (k : Nat) : upFrom p i (k + 1) = if p i = true then i else upFrom p (i + 1) k := rfl
theorem sumTo_succ (f : Int → Int) (k : Nat) : sumTo f (k + 1) = sumTo f k + f k := rfl
/-! the play's rows: LIKE, GAP, where one leaps -/
abbrev likeF (n : Int) (a c : Int → Int) (i j : Int) : Prop := (0 ≤ i ∧ i < n) ∧ (0 ≤ j ∧ j < n) ∧ ¬ i = j ∧ a i = a j ∧ c i = c j ∧ ¬ c i = -1
def likesF (n : Int) (a c : Int → Int) (s : Int) : Int := sumTo (fun i => b2i (likeF n a c i s)) n.toNat
def aheadF (n : Int) (a c : Int → Int) (s : Int) : Int := dnTo (fun i => decide (likeF n a c i s)) s.toNat
def behindF (n : Int) (a c : Int → Int) (s : Int) : Int := upFrom (fun i => decide (likeF n a c i s)) (s + 1) (n - (s + 1)).toNat
def gapF (a : Int → Int) (s : Int) : Int := if dnTo (fun i => decide (a i = a s)) s.toNat = -1 then s else s - dnTo (fun i => decide (a i = a s)) s.toNat - 1
def leapF (kd n : Int) (a c : Int → Int) (s : Int) : Int :=
  if kd = 0 then -1 else if kd = 1 then behindF n a c s else if kd = 2 then aheadF n a c s
  else if aheadF n a c s = -1 ∨ behindF n a c s = -1 then max (aheadF n a c s) (behindF n a c s)
  else if s - aheadF n a c s ≤ behindF n a c s - s then aheadF n a c s else behindF n a c s
def letterX (mem : mmM) (l s m : Int) : Int := if 0 ≤ s ∧ s < mem 23 1 then (if l = 97 then mem 24 s else if l = 115 then s else if l = 108 then mem 26 s else if l = 103 then mem 29 s else if l = 99 then mem 30 s else if m = 0 then 0 else 1) else 0
def forgetsX (mem : mmM) (s m : Int) : Int := if 0 ≤ s ∧ s < mem 23 1 then (if m = 0 then mem 31 s else mem 32 s) else 0
theorem likesF_bnd (n : Int) (a c : Int → Int) (s : Int) (h : 0 ≤ n) : 0 ≤ likesF n a c s ∧ likesF n a c s ≤ n := by
  unfold likesF
  have := sumTo_bnd (f := fun i => b2i (likeF n a c i s)) (n := n.toNat) (b := 1) (fun i _ _ => b2i_rng _)
  omega
theorem likesF_rng {n : Int} {a c : Int → Int} {s : Int} (_ : R32 s) (h : 0 ≤ n ∧ n ≤ 24) : R32 (likesF n a c s) := by
  have := likesF_bnd n a c s h.1
  omega
theorem aheadF_bnd (n : Int) (a c : Int → Int) {s : Int} (h : 0 ≤ s) : (aheadF n a c s = -1 ∧ ∀ i, 0 ≤ i → i < s → ¬ likeF n a c i s) ∨ (0 ≤ aheadF n a c s ∧ aheadF n a c s < s ∧ likeF n a c (aheadF n a c s) s ∧ ∀ i, aheadF n a c s < i → i < s → ¬ likeF n a c i s) := by
  unfold aheadF
  rcases dnTo_spec (fun i => decide (likeF n a c i s)) s.toNat with ⟨h1, h2⟩ | ⟨h1, h2, h3, h4⟩
  · exact Or.inl ⟨h1, fun i g1 g2 => by simpa using h2 i g1 (by omega)⟩
  · exact Or.inr ⟨h1, by omega, by simpa using h3, fun i g1 g2 => by simpa using h4 i g1 (by omega)⟩
theorem behindF_bnd (n : Int) (a c : Int → Int) {s : Int} (h : 0 ≤ s) (hn : s < n) : (behindF n a c s = -1 ∧ ∀ i, s < i → i < n → ¬ likeF n a c i s) ∨ (s < behindF n a c s ∧ behindF n a c s < n ∧ likeF n a c (behindF n a c s) s ∧ ∀ i, s < i → i < behindF n a c s → ¬ likeF n a c i s) := by
  unfold behindF
  rcases upFrom_spec (fun i => decide (likeF n a c i s)) (n - (s + 1)).toNat (s + 1) (by omega) with ⟨h1, h2⟩ | ⟨h1, h2, h3, h4⟩
  · exact Or.inl ⟨h1, fun i g1 g2 => by simpa using h2 i (by omega) (by omega)⟩
  · exact Or.inr ⟨by omega, by omega, by simpa using h3, fun i g1 g2 => by simpa using h4 i (by omega) g2⟩
theorem aheadF_rng {n : Int} {a c : Int → Int} {s : Int} (h : 0 ≤ s ∧ s < 24) (_ : 0 ≤ n ∧ n ≤ 24) : R32 (aheadF n a c s) := by
  have := aheadF_bnd n a c h.1
  omega
theorem behindF_rng {n : Int} {a c : Int → Int} {s : Int} (h : 0 ≤ s ∧ s < 24) (hn : 0 ≤ n ∧ n ≤ 24) : R32 (behindF n a c s) := by
  unfold behindF
  rcases upFrom_spec (fun i => decide (likeF n a c i s)) (n - (s + 1)).toNat (s + 1) (by omega) with ⟨h1, h2⟩ | ⟨h1, h2, h3, h4⟩
  · omega
  · omega
theorem gapF_bnd {a : Int → Int} {s : Int} (h : 0 ≤ s) : 0 ≤ gapF a s ∧ gapF a s ≤ s := by
  unfold gapF
  have := dnTo_spec (fun i => decide (a i = a s)) s.toNat
  split <;> omega
theorem gapF_rng {a : Int → Int} {s : Int} (h : 0 ≤ s ∧ s < 24) : R32 (gapF a s) := by
  have := gapF_bnd (a := a) h.1
  omega
theorem cn_X8_alike {d : Nat} {P : Int → mmM → Prop} {mem : mmM} {x1 x2 : Int} (h : mmT bX8_alike d 0 0 (mQ 0 P) 0 [(2, 23), (0, x1), (0, x2)] [] mS mem) : con 0 bX8_alike d [(2, 23), (0, x1), (0, x2)] mem P := mmC_of [(2, 23), (0, x1), (0, x2)] ok_X8_alike.2.2.2.2 rfl (Nat.le_of_ble_eq_true rfl) h
theorem bk_X8_alike_0 {d : Nat} {P : Int → mmM → Prop} {mem : mmM} {x1 x2 : Int}
  (q1 : ¬ (0 ≤ x1 ∧ x1 < (mem 23 1)) → P 0 mem)
  (q2 : (0 ≤ x1 ∧ x1 < (mem 23 1)) → ¬ (0 ≤ x2 ∧ x2 < (mem 23 1)) → P 0 mem)
  (q3 : (0 ≤ x1 ∧ x1 < (mem 23 1)) → (0 ≤ x2 ∧ x2 < (mem 23 1)) → x1 = x2 → P 0 mem)
  (q4 : (0 ≤ x1 ∧ x1 < (mem 23 1)) → (0 ≤ x2 ∧ x2 < (mem 23 1)) → ¬ x1 = x2 → ¬ (mem 24 x1) = (mem 24 x2) → P 0 mem)
  (q5 : (0 ≤ x1 ∧ x1 < (mem 23 1)) → (0 ≤ x2 ∧ x2 < (mem 23 1)) → ¬ x1 = x2 → (mem 24 x1) = (mem 24 x2) → ¬ (mem 28 x1) = (mem 28 x2) → P 0 mem)
  (q6 : (0 ≤ x1 ∧ x1 < (mem 23 1)) → (0 ≤ x2 ∧ x2 < (mem 23 1)) → ¬ x1 = x2 → (mem 24 x1) = (mem 24 x2) → (mem 28 x1) = (mem 28 x2) → (mem 28 x1) = (-1) → P 0 mem)
  (q7 : (0 ≤ x1 ∧ x1 < (mem 23 1)) → (0 ≤ x2 ∧ x2 < (mem 23 1)) → ¬ x1 = x2 → (mem 24 x1) = (mem 24 x2) → (mem 28 x1) = (mem 28 x2) → ¬ (mem 28 x1) = (-1) → P 1 mem)
  (hd2 : 2 ≤ d := by omega)
  (s1 : R32 x1 := by intros; omega)
  (s2 : (0 ≤ x1 ∧ x1 < (mem 23 1)) → R32 x2 := by intros; omega)
  (s3 : (0 ≤ x1 ∧ x1 < (mem 23 1)) → (0 ≤ x2 ∧ x2 < (mem 23 1)) → ¬ x1 = x2 → 0 ≤ x1 ∧ x1 < 24 := by intros; omega)
  (s4 : (0 ≤ x1 ∧ x1 < (mem 23 1)) → (0 ≤ x2 ∧ x2 < (mem 23 1)) → ¬ x1 = x2 → 0 ≤ x2 ∧ x2 < 24 := by intros; omega)
  : mmT bX8_alike d 0 0 (mQ 0 P) 0 [(2, 23), (0, x1), (0, x2)] [] mS mem := by
  refine st_aload_n (i := 0) rfl (t := 0) rfl (by decide) dX8_alike_0 ?_
  refine st_iload_n (i := 1) rfl rfl dX8_alike_1 ?_
  refine st_callV (kc2 := 0) (ks2 := 0) (av := [(0, x1)]) 23 8 mr_X8_85 ok_X8_has (c_X8_has mem x1 (s1)) rfl sh_23 ⟨_, rfl, rfl, by decide⟩ rfl rfl hd2 (Nat.le_refl 0) (Nat.le_refl 0) (Nat.le_of_ble_eq_true rfl) dX8_alike_2 (mQ.elim fun v1 m1 hp => ?_)
  obtain ⟨hpv, hpm⟩ := hp
  subst hpv
  have hpm := hpm.symm
  subst hpm
  refine so_ifeqB 65 (by decide) dX8_alike_5 (fun h1 => ?_) (fun h1 => ?_)
  · have h1 : ¬ (0 ≤ x1 ∧ x1 < (mem 23 1)) := h1
    refine st_iconst dX8_alike_65 ?_
    exact st_zreturn rfl (by decide) dX8_alike_66 (mQ.ret (q1 h1))
  · have h1 : (0 ≤ x1 ∧ x1 < (mem 23 1)) := h1
    refine st_aload_n (i := 0) rfl (t := 0) rfl (by decide) dX8_alike_8 ?_
    refine st_iload_n (i := 2) rfl rfl dX8_alike_9 ?_
    refine st_callV (kc2 := 0) (ks2 := 0) (av := [(0, x2)]) 23 8 mr_X8_85 ok_X8_has (c_X8_has mem x2 ((s2 h1))) rfl sh_23 ⟨_, rfl, rfl, by decide⟩ rfl rfl hd2 (Nat.le_refl 0) (Nat.le_refl 0) (Nat.le_of_ble_eq_true rfl) dX8_alike_10 (mQ.elim fun v2 m2 hp => ?_)
    obtain ⟨hpv, hpm⟩ := hp
    subst hpv
    have hpm := hpm.symm
    subst hpm
    refine so_ifeqB 65 (by decide) dX8_alike_13 (fun h2 => ?_) (fun h2 => ?_)
    · have h2 : ¬ (0 ≤ x2 ∧ x2 < (mem 23 1)) := h2
      refine st_iconst dX8_alike_65 ?_
      exact st_zreturn rfl (by decide) dX8_alike_66 (mQ.ret (q2 h1 h2))
    · have h2 : (0 ≤ x2 ∧ x2 < (mem 23 1)) := h2
      refine st_iload_n (i := 1) rfl rfl dX8_alike_16 ?_
      refine st_iload_n (i := 2) rfl rfl dX8_alike_17 ?_
      refine sr_icmp_eq 65 s1 (s2 h1) (by decide) dX8_alike_18 (fun h3 => ?_) (fun h3 => ?_)
      · have h3 : x1 = x2 := by omega
        refine st_iconst dX8_alike_65 ?_
        exact st_zreturn rfl (by decide) dX8_alike_66 (mQ.ret (q3 h1 h2 h3))
      · have h3 : ¬ x1 = x2 := by omega
        refine st_aload_n (i := 0) rfl (t := 0) rfl (by decide) dX8_alike_21 ?_
        refine so_getA 23 2 fr_X8_9_8 rfl sh_23 fx_23_2 dX8_alike_22 ?_
        refine st_iload_n (i := 1) rfl rfl dX8_alike_25 ?_
        refine so_iald (v := (mem 24 x1)) 24 rfl sh_24 (by decide) (s3 h1 h2 h3) rfl dX8_alike_26 (fun r1 => ?_)
        refine st_aload_n (i := 0) rfl (t := 0) rfl (by decide) dX8_alike_27 ?_
        refine so_getA 23 2 fr_X8_9_8 rfl sh_23 fx_23_2 dX8_alike_28 ?_
        refine st_iload_n (i := 2) rfl rfl dX8_alike_31 ?_
        refine so_iald (v := (mem 24 x2)) 24 rfl sh_24 (by decide) (s4 h1 h2 h3) rfl dX8_alike_32 (fun r2 => ?_)
        refine sr_icmp_ne 65 r1 r2 (by decide) dX8_alike_33 (fun h4 => ?_) (fun h4 => ?_)
        · have h4 : ¬ (mem 24 x1) = (mem 24 x2) := by omega
          refine st_iconst dX8_alike_65 ?_
          exact st_zreturn rfl (by decide) dX8_alike_66 (mQ.ret (q4 h1 h2 h3 h4))
        · have h4 : (mem 24 x1) = (mem 24 x2) := by omega
          refine st_aload_n (i := 0) rfl (t := 0) rfl (by decide) dX8_alike_36 ?_
          refine so_getA 23 6 fr_X8_24_8 rfl sh_23 fx_23_6 dX8_alike_37 ?_
          refine st_iload_n (i := 1) rfl rfl dX8_alike_40 ?_
          refine so_iald (v := (mem 28 x1)) 28 rfl sh_28 (by decide) (s3 h1 h2 h3) rfl dX8_alike_41 (fun r3 => ?_)
          refine st_aload_n (i := 0) rfl (t := 0) rfl (by decide) dX8_alike_42 ?_
          refine so_getA 23 6 fr_X8_24_8 rfl sh_23 fx_23_6 dX8_alike_43 ?_
          refine st_iload_n (i := 2) rfl rfl dX8_alike_46 ?_
          refine so_iald (v := (mem 28 x2)) 28 rfl sh_28 (by decide) (s4 h1 h2 h3) rfl dX8_alike_47 (fun r4 => ?_)
          refine sr_icmp_ne 65 r3 r4 (by decide) dX8_alike_48 (fun h5 => ?_) (fun h5 => ?_)
          · have h5 : ¬ (mem 28 x1) = (mem 28 x2) := by omega
            refine st_iconst dX8_alike_65 ?_
            exact st_zreturn rfl (by decide) dX8_alike_66 (mQ.ret (q5 h1 h2 h3 h4 h5))
          · have h5 : (mem 28 x1) = (mem 28 x2) := by omega
            refine st_aload_n (i := 0) rfl (t := 0) rfl (by decide) dX8_alike_51 ?_
            refine so_getA 23 6 fr_X8_24_8 rfl sh_23 fx_23_6 dX8_alike_52 ?_
            refine st_iload_n (i := 1) rfl rfl dX8_alike_55 ?_
            refine so_iald (v := (mem 28 x1)) 28 rfl sh_28 (by decide) (s3 h1 h2 h3) rfl dX8_alike_56 (fun r5 => ?_)
            refine st_iconst dX8_alike_57 ?_
            refine sr_icmp_eq 65 r5 ⟨by decide, by decide⟩ (by decide) dX8_alike_58 (fun h6 => ?_) (fun h6 => ?_)
            · have h6 : (mem 28 x1) = (-1) := by omega
              refine st_iconst dX8_alike_65 ?_
              exact st_zreturn rfl (by decide) dX8_alike_66 (mQ.ret (q6 h1 h2 h3 h4 h5 h6))
            · have h6 : ¬ (mem 28 x1) = (-1) := by omega
              refine st_iconst dX8_alike_61 ?_
              refine st_goto 66 (by decide) dX8_alike_62 ?_
              exact st_zreturn rfl (by decide) dX8_alike_66 (mQ.ret (q7 h1 h2 h3 h4 h5 h6))
theorem c_X8_alike (mem : mmM) (x1 x2 : Int) (h1 : R32 x1) (h2 : R32 x2) (hn : 0 ≤ mem 23 1 ∧ mem 23 1 ≤ 24) : con 0 bX8_alike 2 [(2, 23), (0, x1), (0, x2)] mem (fun v m => v = b2i (likeF (mem 23 1) (mem 24) (mem 28) x1 x2) ∧ m = mem) := by
  refine cn_X8_alike (bk_X8_alike_0 ?_ ?_ ?_ ?_ ?_ ?_ ?_) <;> (intros; refine ⟨?_, rfl⟩; unfold b2i; split <;> first | rfl | (exfalso; omega))
theorem cn_X8_gapOf {d : Nat} {P : Int → mmM → Prop} {mem : mmM} {x1 : Int} (h : mmT bX8_gapOf d 0 0 (mQ 0 P) 0 [(2, 23), (0, x1), (9, 0)] [] mS mem) : con 0 bX8_gapOf d [(2, 23), (0, x1)] mem P := mmC_of [(2, 23), (0, x1), (9, 0)] ok_X8_gapOf.2.2.2.2 rfl (Nat.le_of_ble_eq_true rfl) h
theorem bk_X8_gapOf_0 {d : Nat} {P : Int → mmM → Prop} {mem : mmM} {x1 : Int}
  (k1 : mmT bX8_gapOf d 0 0 (mQ 0 P) 4 [(2, 23), (0, x1), (0, (x1 - 1))] [] mS mem)
  : mmT bX8_gapOf d 0 0 (mQ 0 P) 0 [(2, 23), (0, x1), (9, 0)] [] mS mem := by
  refine st_iload_n (i := 1) rfl rfl dX8_gapOf_0 ?_
  refine st_iconst dX8_gapOf_1 ?_
  refine st_isub dX8_gapOf_2 ?_
  refine st_istore_n (i := 2) rfl (by decide) (lc' := [(2, 23), (0, x1), (0, (x1 - 1))]) rfl dX8_gapOf_3 ?_
  exact st_locals [(2, 23), (0, x1), (0, (x1 - 1))] ⟨Or.inr rfl, Or.inr rfl, Or.inr rfl, trivial⟩ k1
theorem bk_X8_gapOf_4 {d : Nat} {P : Int → mmM → Prop} {mem : mmM} {x1 x2 : Int}
  (k1 : 0 ≤ x2 → ¬ (mem 24 x2) = (mem 24 x1) → mmT bX8_gapOf d 0 0 (mQ 0 P) 4 [(2, 23), (0, x1), (0, (x2 + (-1)))] [] mS mem)
  (q1 : x2 < 0 → P x1 mem)
  (q2 : 0 ≤ x2 → (mem 24 x2) = (mem 24 x1) → P ((x1 - x2) - 1) mem)
  (s1 : R32 x2 := by intros; omega)
  (s2 : 0 ≤ x2 → 0 ≤ x2 ∧ x2 < 24 := by intros; omega)
  (s3 : 0 ≤ x2 → 0 ≤ x1 ∧ x1 < 24 := by intros; omega)
  : mmT bX8_gapOf d 0 0 (mQ 0 P) 4 [(2, 23), (0, x1), (0, x2)] [] mS mem := by
  refine st_iload_n (i := 2) rfl rfl dX8_gapOf_4 ?_
  refine sr_if_lt 35 s1 (by decide) dX8_gapOf_5 (fun h1 => ?_) (fun h1 => ?_)
  · have h1 : x2 < 0 := by omega
    refine st_iload_n (i := 1) rfl rfl dX8_gapOf_35 ?_
    exact st_ireturn rfl dX8_gapOf_36 (mQ.ret (q1 h1))
  · have h1 : 0 ≤ x2 := by omega
    refine st_aload_n (i := 0) rfl (t := 0) rfl (by decide) dX8_gapOf_8 ?_
    refine so_getA 23 2 fr_X8_9_8 rfl sh_23 fx_23_2 dX8_gapOf_9 ?_
    refine st_iload_n (i := 2) rfl rfl dX8_gapOf_12 ?_
    refine so_iald (v := (mem 24 x2)) 24 rfl sh_24 (by decide) (s2 h1) rfl dX8_gapOf_13 (fun r1 => ?_)
    refine st_aload_n (i := 0) rfl (t := 0) rfl (by decide) dX8_gapOf_14 ?_
    refine so_getA 23 2 fr_X8_9_8 rfl sh_23 fx_23_2 dX8_gapOf_15 ?_
    refine st_iload_n (i := 1) rfl rfl dX8_gapOf_18 ?_
    refine so_iald (v := (mem 24 x1)) 24 rfl sh_24 (by decide) (s3 h1) rfl dX8_gapOf_19 (fun r2 => ?_)
    refine sr_icmp_ne 29 r1 r2 (by decide) dX8_gapOf_20 (fun h2 => ?_) (fun h2 => ?_)
    · have h2 : ¬ (mem 24 x2) = (mem 24 x1) := by omega
      refine st_iinc (y := (x2 + (-1))) (by decide) (i := 2) rfl rfl (lc' := [(2, 23), (0, x1), (0, (x2 + (-1)))]) rfl dX8_gapOf_29 ?_
      refine st_goto 4 (by decide) dX8_gapOf_32 ?_
      exact st_locals [(2, 23), (0, x1), (0, (x2 + (-1)))] ⟨Or.inr rfl, Or.inr rfl, Or.inr rfl, trivial⟩ (k1 h1 h2)
    · have h2 : (mem 24 x2) = (mem 24 x1) := by omega
      refine st_iload_n (i := 1) rfl rfl dX8_gapOf_23 ?_
      refine st_iload_n (i := 2) rfl rfl dX8_gapOf_24 ?_
      refine st_isub dX8_gapOf_25 ?_
      refine st_iconst dX8_gapOf_26 ?_
      refine st_isub dX8_gapOf_27 ?_
      exact st_ireturn rfl dX8_gapOf_28 (mQ.ret (q2 h1 h2))
theorem cn_X8_letter {d : Nat} {P : Int → mmM → Prop} {mem : mmM} {x1 x2 x3 : Int} (h : mmT bX8_letter d 0 0 (mQ 0 P) 0 [(2, 23), (0, x1), (0, x2), (0, x3)] [] mS mem) : con 0 bX8_letter d [(2, 23), (0, x1), (0, x2), (0, x3)] mem P := mmC_of [(2, 23), (0, x1), (0, x2), (0, x3)] ok_X8_letter.2.2.2.2 rfl (Nat.le_of_ble_eq_true rfl) h
theorem bk_X8_letter_0 {d : Nat} {P : Int → mmM → Prop} {mem : mmM} {x1 x2 x3 : Int}
  (q1 : (0 ≤ x2 ∧ x2 < (mem 23 1)) → x1 = 97 → P (mem 24 x2) mem)
  (q2 : (0 ≤ x2 ∧ x2 < (mem 23 1)) → ¬ x1 = 97 → x1 = 99 → P (mem 30 x2) mem)
  (q3 : (0 ≤ x2 ∧ x2 < (mem 23 1)) → ¬ x1 = 97 → ¬ x1 = 99 → x1 = 103 → P (mem 29 x2) mem)
  (q4 : (0 ≤ x2 ∧ x2 < (mem 23 1)) → ¬ x1 = 97 → ¬ x1 = 99 → ¬ x1 = 103 → x1 = 108 → P (mem 26 x2) mem)
  (q5 : (0 ≤ x2 ∧ x2 < (mem 23 1)) → ¬ x1 = 97 → ¬ x1 = 99 → ¬ x1 = 103 → ¬ x1 = 108 → x1 = 115 → P x2 mem)
  (q6 : (0 ≤ x2 ∧ x2 < (mem 23 1)) → ¬ x1 = 97 → ¬ x1 = 99 → ¬ x1 = 103 → ¬ x1 = 108 → ¬ x1 = 115 → x3 = 0 → P 0 mem)
  (q7 : (0 ≤ x2 ∧ x2 < (mem 23 1)) → ¬ x1 = 97 → ¬ x1 = 99 → ¬ x1 = 103 → ¬ x1 = 108 → ¬ x1 = 115 → ¬ x3 = 0 → P 1 mem)
  (q8 : ¬ (0 ≤ x2 ∧ x2 < (mem 23 1)) → P 0 mem)
  (hd2 : 2 ≤ d := by omega)
  (s1 : R32 x2 := by intros; omega)
  (s2 : (0 ≤ x2 ∧ x2 < (mem 23 1)) → R32 x1 := by intros; omega)
  (s3 : (0 ≤ x2 ∧ x2 < (mem 23 1)) → x1 = 97 → 0 ≤ x2 ∧ x2 < 24 := by intros; omega)
  (s4 : (0 ≤ x2 ∧ x2 < (mem 23 1)) → ¬ x1 = 97 → x1 = 99 → 0 ≤ x2 ∧ x2 < 24 := by intros; omega)
  (s5 : (0 ≤ x2 ∧ x2 < (mem 23 1)) → ¬ x1 = 97 → ¬ x1 = 99 → x1 = 103 → 0 ≤ x2 ∧ x2 < 24 := by intros; omega)
  (s6 : (0 ≤ x2 ∧ x2 < (mem 23 1)) → ¬ x1 = 97 → ¬ x1 = 99 → ¬ x1 = 103 → x1 = 108 → 0 ≤ x2 ∧ x2 < 24 := by intros; omega)
  (s7 : (0 ≤ x2 ∧ x2 < (mem 23 1)) → ¬ x1 = 97 → ¬ x1 = 99 → ¬ x1 = 103 → ¬ x1 = 108 → ¬ x1 = 115 → R32 x3 := by intros; omega)
  : mmT bX8_letter d 0 0 (mQ 0 P) 0 [(2, 23), (0, x1), (0, x2), (0, x3)] [] mS mem := by
  refine st_aload_n (i := 0) rfl (t := 0) rfl (by decide) dX8_letter_0 ?_
  refine st_iload_n (i := 2) rfl rfl dX8_letter_1 ?_
  refine st_callV (kc2 := 0) (ks2 := 0) (av := [(0, x2)]) 23 8 mr_X8_85 ok_X8_has (c_X8_has mem x2 (s1)) rfl sh_23 ⟨_, rfl, rfl, by decide⟩ rfl rfl hd2 (Nat.le_refl 0) (Nat.le_refl 0) (Nat.le_of_ble_eq_true rfl) dX8_letter_2 (mQ.elim fun v1 m1 hp => ?_)
  obtain ⟨hpv, hpm⟩ := hp
  subst hpv
  have hpm := hpm.symm
  subst hpm
  refine so_ifneB 10 (by decide) dX8_letter_5 (fun h1 => ?_) (fun h1 => ?_)
  · have h1 : (0 ≤ x2 ∧ x2 < (mem 23 1)) := h1
    refine st_iload_n (i := 1) rfl rfl dX8_letter_10 ?_
    by_cases h2 : x1 = 97
    · refine so_look (off := 49) 60 (s2 h1) (by decide) (by rw [h2]; rfl) (by decide) dX8_letter_11 ?_
      refine st_aload_n (i := 0) rfl (t := 0) rfl (by decide) dX8_letter_60 ?_
      refine so_getA 23 2 fr_X8_9_8 rfl sh_23 fx_23_2 dX8_letter_61 ?_
      refine st_iload_n (i := 2) rfl rfl dX8_letter_64 ?_
      refine so_iald (v := (mem 24 x2)) 24 rfl sh_24 (by decide) (s3 h1 h2) rfl dX8_letter_65 (fun r1 => ?_)
      exact st_ireturn rfl dX8_letter_66 (mQ.ret (q1 h1 h2))
    by_cases h3 : x1 = 99
    · refine so_look (off := 72) 83 (s2 h1) (by decide) (by rw [h3]; rfl) (by decide) dX8_letter_11 ?_
      refine st_aload_n (i := 0) rfl (t := 0) rfl (by decide) dX8_letter_83 ?_
      refine so_getA 23 8 fr_X8_30_8 rfl sh_23 fx_23_8 dX8_letter_84 ?_
      refine st_iload_n (i := 2) rfl rfl dX8_letter_87 ?_
      refine so_iald (v := (mem 30 x2)) 30 rfl sh_30 (by decide) (s4 h1 h2 h3) rfl dX8_letter_88 (fun r2 => ?_)
      exact st_ireturn rfl dX8_letter_89 (mQ.ret (q2 h1 h2 h3))
    by_cases h4 : x1 = 103
    · refine so_look (off := 65) 76 (s2 h1) (by decide) (by rw [h4]; rfl) (by decide) dX8_letter_11 ?_
      refine st_aload_n (i := 0) rfl (t := 0) rfl (by decide) dX8_letter_76 ?_
      refine so_getA 23 7 fr_X8_27_8 rfl sh_23 fx_23_7 dX8_letter_77 ?_
      refine st_iload_n (i := 2) rfl rfl dX8_letter_80 ?_
      refine so_iald (v := (mem 29 x2)) 29 rfl sh_29 (by decide) (s5 h1 h2 h3 h4) rfl dX8_letter_81 (fun r3 => ?_)
      exact st_ireturn rfl dX8_letter_82 (mQ.ret (q3 h1 h2 h3 h4))
    by_cases h5 : x1 = 108
    · refine so_look (off := 58) 69 (s2 h1) (by decide) (by rw [h5]; rfl) (by decide) dX8_letter_11 ?_
      refine st_aload_n (i := 0) rfl (t := 0) rfl (by decide) dX8_letter_69 ?_
      refine so_getA 23 4 fr_X8_18_8 rfl sh_23 fx_23_4 dX8_letter_70 ?_
      refine st_iload_n (i := 2) rfl rfl dX8_letter_73 ?_
      refine so_iald (v := (mem 26 x2)) 26 rfl sh_26 (by decide) (s6 h1 h2 h3 h4 h5) rfl dX8_letter_74 (fun r4 => ?_)
      exact st_ireturn rfl dX8_letter_75 (mQ.ret (q4 h1 h2 h3 h4 h5))
    by_cases h6 : x1 = 115
    · refine so_look (off := 56) 67 (s2 h1) (by decide) (by rw [h6]; rfl) (by decide) dX8_letter_11 ?_
      refine st_iload_n (i := 2) rfl rfl dX8_letter_67 ?_
      exact st_ireturn rfl dX8_letter_68 (mQ.ret (q5 h1 h2 h3 h4 h5 h6))
    refine so_look (off := 79) 90 (s2 h1) (by decide) (by simp [Op.lookupswitch.offset, Ne.symm h2, Ne.symm h3, Ne.symm h4, Ne.symm h5, Ne.symm h6]) (by decide) dX8_letter_11 ?_
    refine st_iload_n (i := 3) rfl rfl dX8_letter_90 ?_
    refine sr_if_eq 98 (s7 h1 h2 h3 h4 h5 h6) (by decide) dX8_letter_91 (fun h7 => ?_) (fun h7 => ?_)
    · have h7 : x3 = 0 := by omega
      refine st_iconst dX8_letter_98 ?_
      exact st_ireturn rfl dX8_letter_99 (mQ.ret (q6 h1 h2 h3 h4 h5 h6 h7))
    · have h7 : ¬ x3 = 0 := by omega
      refine st_iconst dX8_letter_94 ?_
      refine st_goto 99 (by decide) dX8_letter_95 ?_
      exact st_ireturn rfl dX8_letter_99 (mQ.ret (q7 h1 h2 h3 h4 h5 h6 h7))
  · have h1 : ¬ (0 ≤ x2 ∧ x2 < (mem 23 1)) := h1
    refine st_iconst dX8_letter_8 ?_
    exact st_ireturn rfl dX8_letter_9 (mQ.ret (q8 h1))
theorem cn_X8_forgets {d : Nat} {P : Int → mmM → Prop} {mem : mmM} {x1 x2 : Int} (h : mmT bX8_forgets d 0 0 (mQ 0 P) 0 [(2, 23), (0, x1), (0, x2)] [] mS mem) : con 0 bX8_forgets d [(2, 23), (0, x1), (0, x2)] mem P := mmC_of [(2, 23), (0, x1), (0, x2)] ok_X8_forgets.2.2.2.2 rfl (Nat.le_of_ble_eq_true rfl) h
theorem bk_X8_forgets_0 {d : Nat} {P : Int → mmM → Prop} {mem : mmM} {x1 x2 : Int}
  (q1 : (0 ≤ x1 ∧ x1 < (mem 23 1)) → x2 = 0 → P (mem 31 x1) mem)
  (q2 : (0 ≤ x1 ∧ x1 < (mem 23 1)) → ¬ x2 = 0 → P (mem 32 x1) mem)
  (q3 : ¬ (0 ≤ x1 ∧ x1 < (mem 23 1)) → P 0 mem)
  (hd2 : 2 ≤ d := by omega)
  (s1 : R32 x1 := by intros; omega)
  (s2 : (0 ≤ x1 ∧ x1 < (mem 23 1)) → R32 x2 := by intros; omega)
  (s3 : (0 ≤ x1 ∧ x1 < (mem 23 1)) → x2 = 0 → 0 ≤ x1 ∧ x1 < 24 := by intros; omega)
  (s4 : (0 ≤ x1 ∧ x1 < (mem 23 1)) → ¬ x2 = 0 → 0 ≤ x1 ∧ x1 < 24 := by intros; omega)
  : mmT bX8_forgets d 0 0 (mQ 0 P) 0 [(2, 23), (0, x1), (0, x2)] [] mS mem := by
  refine st_aload_n (i := 0) rfl (t := 0) rfl (by decide) dX8_forgets_0 ?_
  refine st_iload_n (i := 1) rfl rfl dX8_forgets_1 ?_
  refine st_callV (kc2 := 0) (ks2 := 0) (av := [(0, x1)]) 23 8 mr_X8_85 ok_X8_has (c_X8_has mem x1 (s1)) rfl sh_23 ⟨_, rfl, rfl, by decide⟩ rfl rfl hd2 (Nat.le_refl 0) (Nat.le_refl 0) (Nat.le_of_ble_eq_true rfl) dX8_forgets_2 (mQ.elim fun v1 m1 hp => ?_)
  obtain ⟨hpv, hpm⟩ := hp
  subst hpv
  have hpm := hpm.symm
  subst hpm
  refine so_ifneB 10 (by decide) dX8_forgets_5 (fun h1 => ?_) (fun h1 => ?_)
  · have h1 : (0 ≤ x1 ∧ x1 < (mem 23 1)) := h1
    refine st_iload_n (i := 2) rfl rfl dX8_forgets_10 ?_
    refine sr_if_eq 23 (s2 h1) (by decide) dX8_forgets_11 (fun h2 => ?_) (fun h2 => ?_)
    · have h2 : x2 = 0 := by omega
      refine st_aload_n (i := 0) rfl (t := 0) rfl (by decide) dX8_forgets_23 ?_
      refine so_getA 23 9 fr_X8_33_8 rfl sh_23 fx_23_9 dX8_forgets_24 ?_
      refine st_iload_n (i := 1) rfl rfl dX8_forgets_27 ?_
      refine so_iald (v := (mem 31 x1)) 31 rfl sh_31 (by decide) (s3 h1 h2) rfl dX8_forgets_28 (fun r1 => ?_)
      exact st_ireturn rfl dX8_forgets_29 (mQ.ret (q1 h1 h2))
    · have h2 : ¬ x2 = 0 := by omega
      refine st_aload_n (i := 0) rfl (t := 0) rfl (by decide) dX8_forgets_14 ?_
      refine so_getA 23 10 fr_X8_36_8 rfl sh_23 fx_23_10 dX8_forgets_15 ?_
      refine st_iload_n (i := 1) rfl rfl dX8_forgets_18 ?_
      refine so_iald (v := (mem 32 x1)) 32 rfl sh_32 (by decide) (s4 h1 h2) rfl dX8_forgets_19 (fun r2 => ?_)
      refine st_goto 29 (by decide) dX8_forgets_20 ?_
      exact st_ireturn rfl dX8_forgets_29 (mQ.ret (q2 h1 h2))
  · have h1 : ¬ (0 ≤ x1 ∧ x1 < (mem 23 1)) := h1
    refine st_iconst dX8_forgets_8 ?_
    exact st_ireturn rfl dX8_forgets_9 (mQ.ret (q3 h1))
theorem c_X8_gapOf (mem : mmM) (x1 : Int) (h1 : 0 ≤ x1 ∧ x1 < 24) : con 0 bX8_gapOf 1 [(2, 23), (0, x1)] mem (fun v m => v = gapF (mem 24) x1 ∧ m = mem) := by
  refine cn_X8_gapOf (bk_X8_gapOf_0 ?_)
  have key : ∀ (k : Nat), (k : Int) ≤ x1 → dnTo (fun i => decide (mem 24 i = mem 24 x1)) k = dnTo (fun i => decide (mem 24 i = mem 24 x1)) x1.toNat → mmT bX8_gapOf 1 0 0 (mQ 0 (fun v m => v = gapF (mem 24) x1 ∧ m = mem)) 4 [(2, 23), (0, x1), (0, (k : Int) - 1)] [] mS mem := by
    intro k
    induction k with
    | zero =>
      intro h2 h3
      refine bk_X8_gapOf_4 (fun g => by omega) (fun g => ⟨?_, rfl⟩) (fun g => by omega)
      unfold gapF
      rw [← h3]
      rfl
    | succ k ih =>
      intro h2 h3
      rw [dnTo_succ] at h3
      refine bk_X8_gapOf_4 (fun g1 g2 => ?_) (fun g => by omega) (fun g1 g2 => ⟨?_, rfl⟩)
      · have e : (((k + 1 : Nat) : Int) - 1) = k := by omega
        rw [e] at g2 ⊢
        have := ih (by omega) (by rw [if_neg (fun q => g2 (of_decide_eq_true q))] at h3; exact h3)
        exact this
      · have e : (((k + 1 : Nat) : Int) - 1) = k := by omega
        rw [e] at g2 ⊢
        rw [if_pos (decide_eq_true g2)] at h3
        unfold gapF
        rw [← h3, if_neg (by omega)]
  have := key x1.toNat (by omega) rfl
  rw [Int.toNat_of_nonneg h1.1] at this
  exact this
theorem c_X8_letter (mem : mmM) (x1 x2 x3 : Int) (h1 : R32 x1) (h2 : R32 x2) (h3 : R32 x3) (hn : 0 ≤ mem 23 1 ∧ mem 23 1 ≤ 24) : con 0 bX8_letter 2 [(2, 23), (0, x1), (0, x2), (0, x3)] mem (fun v m => v = letterX mem x1 x2 x3 ∧ m = mem) := by
  refine cn_X8_letter (bk_X8_letter_0 ?_ ?_ ?_ ?_ ?_ ?_ ?_ ?_) <;> (intros; refine ⟨?_, rfl⟩; unfold letterX; repeat' split) <;> first | rfl | (exfalso; omega)
theorem c_X8_forgets (mem : mmM) (x1 x2 : Int) (h1 : R32 x1) (h2 : R32 x2) (hn : 0 ≤ mem 23 1 ∧ mem 23 1 ≤ 24) : con 0 bX8_forgets 2 [(2, 23), (0, x1), (0, x2)] mem (fun v m => v = forgetsX mem x1 x2 ∧ m = mem) := by
  refine cn_X8_forgets (bk_X8_forgets_0 ?_ ?_ ?_) <;> (intros; refine ⟨?_, rfl⟩; unfold forgetsX; repeat' split) <;> first | rfl | (exfalso; omega)
theorem cn_X8_likesOf {d : Nat} {P : Int → mmM → Prop} {mem : mmM} {x1 : Int} (h : mmT bX8_likesOf d 0 0 (mQ 0 P) 0 [(2, 23), (0, x1), (9, 0), (9, 0)] [] mS mem) : con 0 bX8_likesOf d [(2, 23), (0, x1)] mem P := mmC_of [(2, 23), (0, x1), (9, 0), (9, 0)] ok_X8_likesOf.2.2.2.2 rfl (Nat.le_of_ble_eq_true rfl) h
theorem bk_X8_likesOf_0 {d : Nat} {P : Int → mmM → Prop} {mem : mmM} {x1 : Int}
  (k1 : mmT bX8_likesOf d 0 0 (mQ 0 P) 4 [(2, 23), (0, x1), (0, 0), (0, 0)] [] mS mem)
  : mmT bX8_likesOf d 0 0 (mQ 0 P) 0 [(2, 23), (0, x1), (9, 0), (9, 0)] [] mS mem := by
  refine st_iconst dX8_likesOf_0 ?_
  refine st_istore_n (i := 2) rfl (by decide) (lc' := [(2, 23), (0, x1), (0, 0), (9, 0)]) rfl dX8_likesOf_1 ?_
  refine st_iconst dX8_likesOf_2 ?_
  refine st_istore_n (i := 3) rfl (by decide) (lc' := [(2, 23), (0, x1), (0, 0), (0, 0)]) rfl dX8_likesOf_3 ?_
  exact st_locals [(2, 23), (0, x1), (0, 0), (0, 0)] ⟨Or.inr rfl, Or.inr rfl, Or.inr rfl, Or.inr rfl, trivial⟩ k1
theorem bk_X8_likesOf_4 {d : Nat} {P : Int → mmM → Prop} {mem : mmM} {x1 x2 x3 : Int}
  (k1 : x3 < (mem 23 1) → ¬ (likeF (mem 23 1) (mem 24) (mem 28) x3 x1) → mmT bX8_likesOf d 0 0 (mQ 0 P) 4 [(2, 23), (0, x1), (0, (x2 + 0)), (0, (x3 + 1))] [] mS mem)
  (k2 : x3 < (mem 23 1) → (likeF (mem 23 1) (mem 24) (mem 28) x3 x1) → mmT bX8_likesOf d 0 0 (mQ 0 P) 4 [(2, 23), (0, x1), (0, (x2 + 1)), (0, (x3 + 1))] [] mS mem)
  (q1 : (mem 23 1) ≤ x3 → P x2 mem)
  (hd3 : 3 ≤ d := by omega)
  (s1 : R32 x3 := by intros; omega)
  (s2 : x3 < (mem 23 1) → R32 x1 := by intros; omega)
  (s3 : x3 < (mem 23 1) → 0 ≤ (mem 23 1) ∧ (mem 23 1) ≤ 24 := by intros; omega)
  : mmT bX8_likesOf d 0 0 (mQ 0 P) 4 [(2, 23), (0, x1), (0, x2), (0, x3)] [] mS mem := by
  refine st_iload_n (i := 3) rfl rfl dX8_likesOf_4 ?_
  refine st_aload_n (i := 0) rfl (t := 0) rfl (by decide) dX8_likesOf_5 ?_
  refine so_getI (v := (mem 23 1)) 23 1 fr_X8_60_8 rfl sh_23 rfl dX8_likesOf_6 (fun r1 => ?_)
  refine sr_icmp_ge 35 s1 r1 (by decide) dX8_likesOf_9 (fun h1 => ?_) (fun h1 => ?_)
  · have h1 : (mem 23 1) ≤ x3 := by omega
    refine st_iload_n (i := 2) rfl rfl dX8_likesOf_35 ?_
    exact st_ireturn rfl dX8_likesOf_36 (mQ.ret (q1 h1))
  · have h1 : x3 < (mem 23 1) := by omega
    refine st_iload_n (i := 2) rfl rfl dX8_likesOf_12 ?_
    refine st_aload_n (i := 0) rfl (t := 0) rfl (by decide) dX8_likesOf_13 ?_
    refine st_iload_n (i := 3) rfl rfl dX8_likesOf_14 ?_
    refine st_iload_n (i := 1) rfl rfl dX8_likesOf_15 ?_
    refine st_callV (kc2 := 0) (ks2 := 0) (av := [(0, x3), (0, x1)]) 23 8 mr_X8_77 ok_X8_alike (c_X8_alike mem x3 x1 (s1) ((s2 h1)) ((s3 h1))) rfl sh_23 ⟨_, rfl, rfl, by decide⟩ rfl rfl hd3 (Nat.le_refl 0) (Nat.le_refl 0) (Nat.le_of_ble_eq_true rfl) dX8_likesOf_16 (mQ.elim fun v1 m1 hp => ?_)
    obtain ⟨hpv, hpm⟩ := hp
    subst hpv
    have hpm := hpm.symm
    subst hpm
    refine so_ifeqB 26 (by decide) dX8_likesOf_19 (fun h2 => ?_) (fun h2 => ?_)
    · have h2 : ¬ (likeF (mem 23 1) (mem 24) (mem 28) x3 x1) := h2
      refine st_iconst dX8_likesOf_26 ?_
      refine st_iadd dX8_likesOf_27 ?_
      refine st_istore_n (i := 2) rfl (by decide) (lc' := [(2, 23), (0, x1), (0, (x2 + 0)), (0, x3)]) rfl dX8_likesOf_28 ?_
      refine st_iinc (y := (x3 + 1)) (by decide) (i := 3) rfl rfl (lc' := [(2, 23), (0, x1), (0, (x2 + 0)), (0, (x3 + 1))]) rfl dX8_likesOf_29 ?_
      refine st_goto 4 (by decide) dX8_likesOf_32 ?_
      exact st_locals [(2, 23), (0, x1), (0, (x2 + 0)), (0, (x3 + 1))] ⟨Or.inr rfl, Or.inr rfl, Or.inr rfl, Or.inr rfl, trivial⟩ (k1 h1 h2)
    · have h2 : (likeF (mem 23 1) (mem 24) (mem 28) x3 x1) := h2
      refine st_iconst dX8_likesOf_22 ?_
      refine st_goto 27 (by decide) dX8_likesOf_23 ?_
      refine st_iadd dX8_likesOf_27 ?_
      refine st_istore_n (i := 2) rfl (by decide) (lc' := [(2, 23), (0, x1), (0, (x2 + 1)), (0, x3)]) rfl dX8_likesOf_28 ?_
      refine st_iinc (y := (x3 + 1)) (by decide) (i := 3) rfl rfl (lc' := [(2, 23), (0, x1), (0, (x2 + 1)), (0, (x3 + 1))]) rfl dX8_likesOf_29 ?_
      refine st_goto 4 (by decide) dX8_likesOf_32 ?_
      exact st_locals [(2, 23), (0, x1), (0, (x2 + 1)), (0, (x3 + 1))] ⟨Or.inr rfl, Or.inr rfl, Or.inr rfl, Or.inr rfl, trivial⟩ (k2 h1 h2)
theorem cn_X8_lastLikeAhead {d : Nat} {P : Int → mmM → Prop} {mem : mmM} {x1 : Int} (h : mmT bX8_lastLikeAhead d 0 0 (mQ 0 P) 0 [(2, 23), (0, x1), (9, 0)] [] mS mem) : con 0 bX8_lastLikeAhead d [(2, 23), (0, x1)] mem P := mmC_of [(2, 23), (0, x1), (9, 0)] ok_X8_lastLikeAhead.2.2.2.2 rfl (Nat.le_of_ble_eq_true rfl) h
theorem bk_X8_lastLikeAhead_0 {d : Nat} {P : Int → mmM → Prop} {mem : mmM} {x1 : Int}
  (k1 : mmT bX8_lastLikeAhead d 0 0 (mQ 0 P) 4 [(2, 23), (0, x1), (0, (x1 - 1))] [] mS mem)
  : mmT bX8_lastLikeAhead d 0 0 (mQ 0 P) 0 [(2, 23), (0, x1), (9, 0)] [] mS mem := by
  refine st_iload_n (i := 1) rfl rfl dX8_lastLikeAhead_0 ?_
  refine st_iconst dX8_lastLikeAhead_1 ?_
  refine st_isub dX8_lastLikeAhead_2 ?_
  refine st_istore_n (i := 2) rfl (by decide) (lc' := [(2, 23), (0, x1), (0, (x1 - 1))]) rfl dX8_lastLikeAhead_3 ?_
  exact st_locals [(2, 23), (0, x1), (0, (x1 - 1))] ⟨Or.inr rfl, Or.inr rfl, Or.inr rfl, trivial⟩ k1
theorem bk_X8_lastLikeAhead_4 {d : Nat} {P : Int → mmM → Prop} {mem : mmM} {x1 x2 : Int}
  (k1 : 0 ≤ x2 → ¬ (likeF (mem 23 1) (mem 24) (mem 28) x2 x1) → mmT bX8_lastLikeAhead d 0 0 (mQ 0 P) 4 [(2, 23), (0, x1), (0, (x2 + (-1)))] [] mS mem)
  (q1 : x2 < 0 → P (-1) mem)
  (q2 : 0 ≤ x2 → (likeF (mem 23 1) (mem 24) (mem 28) x2 x1) → P x2 mem)
  (hd3 : 3 ≤ d := by omega)
  (s1 : R32 x2 := by intros; omega)
  (s2 : 0 ≤ x2 → R32 x1 := by intros; omega)
  (s3 : 0 ≤ x2 → 0 ≤ (mem 23 1) ∧ (mem 23 1) ≤ 24 := by intros; omega)
  : mmT bX8_lastLikeAhead d 0 0 (mQ 0 P) 4 [(2, 23), (0, x1), (0, x2)] [] mS mem := by
  refine st_iload_n (i := 2) rfl rfl dX8_lastLikeAhead_4 ?_
  refine sr_if_lt 25 s1 (by decide) dX8_lastLikeAhead_5 (fun h1 => ?_) (fun h1 => ?_)
  · have h1 : x2 < 0 := by omega
    refine st_iconst dX8_lastLikeAhead_25 ?_
    exact st_ireturn rfl dX8_lastLikeAhead_26 (mQ.ret (q1 h1))
  · have h1 : 0 ≤ x2 := by omega
    refine st_aload_n (i := 0) rfl (t := 0) rfl (by decide) dX8_lastLikeAhead_8 ?_
    refine st_iload_n (i := 2) rfl rfl dX8_lastLikeAhead_9 ?_
    refine st_iload_n (i := 1) rfl rfl dX8_lastLikeAhead_10 ?_
    refine st_callV (kc2 := 0) (ks2 := 0) (av := [(0, x2), (0, x1)]) 23 8 mr_X8_77 ok_X8_alike (c_X8_alike mem x2 x1 (s1) ((s2 h1)) ((s3 h1))) rfl sh_23 ⟨_, rfl, rfl, by decide⟩ rfl rfl hd3 (Nat.le_refl 0) (Nat.le_refl 0) (Nat.le_of_ble_eq_true rfl) dX8_lastLikeAhead_11 (mQ.elim fun v1 m1 hp => ?_)
    obtain ⟨hpv, hpm⟩ := hp
    subst hpv
    have hpm := hpm.symm
    subst hpm
    refine so_ifeqB 19 (by decide) dX8_lastLikeAhead_14 (fun h2 => ?_) (fun h2 => ?_)
    · have h2 : ¬ (likeF (mem 23 1) (mem 24) (mem 28) x2 x1) := h2
      refine st_iinc (y := (x2 + (-1))) (by decide) (i := 2) rfl rfl (lc' := [(2, 23), (0, x1), (0, (x2 + (-1)))]) rfl dX8_lastLikeAhead_19 ?_
      refine st_goto 4 (by decide) dX8_lastLikeAhead_22 ?_
      exact st_locals [(2, 23), (0, x1), (0, (x2 + (-1)))] ⟨Or.inr rfl, Or.inr rfl, Or.inr rfl, trivial⟩ (k1 h1 h2)
    · have h2 : (likeF (mem 23 1) (mem 24) (mem 28) x2 x1) := h2
      refine st_iload_n (i := 2) rfl rfl dX8_lastLikeAhead_17 ?_
      exact st_ireturn rfl dX8_lastLikeAhead_18 (mQ.ret (q2 h1 h2))
theorem cn_X8_firstLikeBehind {d : Nat} {P : Int → mmM → Prop} {mem : mmM} {x1 : Int} (h : mmT bX8_firstLikeBehind d 0 0 (mQ 0 P) 0 [(2, 23), (0, x1), (9, 0)] [] mS mem) : con 0 bX8_firstLikeBehind d [(2, 23), (0, x1)] mem P := mmC_of [(2, 23), (0, x1), (9, 0)] ok_X8_firstLikeBehind.2.2.2.2 rfl (Nat.le_of_ble_eq_true rfl) h
theorem bk_X8_firstLikeBehind_0 {d : Nat} {P : Int → mmM → Prop} {mem : mmM} {x1 : Int}
  (k1 : mmT bX8_firstLikeBehind d 0 0 (mQ 0 P) 4 [(2, 23), (0, x1), (0, (x1 + 1))] [] mS mem)
  : mmT bX8_firstLikeBehind d 0 0 (mQ 0 P) 0 [(2, 23), (0, x1), (9, 0)] [] mS mem := by
  refine st_iload_n (i := 1) rfl rfl dX8_firstLikeBehind_0 ?_
  refine st_iconst dX8_firstLikeBehind_1 ?_
  refine st_iadd dX8_firstLikeBehind_2 ?_
  refine st_istore_n (i := 2) rfl (by decide) (lc' := [(2, 23), (0, x1), (0, (x1 + 1))]) rfl dX8_firstLikeBehind_3 ?_
  exact st_locals [(2, 23), (0, x1), (0, (x1 + 1))] ⟨Or.inr rfl, Or.inr rfl, Or.inr rfl, trivial⟩ k1
theorem bk_X8_firstLikeBehind_4 {d : Nat} {P : Int → mmM → Prop} {mem : mmM} {x1 x2 : Int}
  (k1 : x2 < (mem 23 1) → ¬ (likeF (mem 23 1) (mem 24) (mem 28) x2 x1) → mmT bX8_firstLikeBehind d 0 0 (mQ 0 P) 4 [(2, 23), (0, x1), (0, (x2 + 1))] [] mS mem)
  (q1 : (mem 23 1) ≤ x2 → P (-1) mem)
  (q2 : x2 < (mem 23 1) → (likeF (mem 23 1) (mem 24) (mem 28) x2 x1) → P x2 mem)
  (hd3 : 3 ≤ d := by omega)
  (s1 : R32 x2 := by intros; omega)
  (s2 : x2 < (mem 23 1) → R32 x1 := by intros; omega)
  (s3 : x2 < (mem 23 1) → 0 ≤ (mem 23 1) ∧ (mem 23 1) ≤ 24 := by intros; omega)
  : mmT bX8_firstLikeBehind d 0 0 (mQ 0 P) 4 [(2, 23), (0, x1), (0, x2)] [] mS mem := by
  refine st_iload_n (i := 2) rfl rfl dX8_firstLikeBehind_4 ?_
  refine st_aload_n (i := 0) rfl (t := 0) rfl (by decide) dX8_firstLikeBehind_5 ?_
  refine so_getI (v := (mem 23 1)) 23 1 fr_X8_60_8 rfl sh_23 rfl dX8_firstLikeBehind_6 (fun r1 => ?_)
  refine sr_icmp_ge 29 s1 r1 (by decide) dX8_firstLikeBehind_9 (fun h1 => ?_) (fun h1 => ?_)
  · have h1 : (mem 23 1) ≤ x2 := by omega
    refine st_iconst dX8_firstLikeBehind_29 ?_
    exact st_ireturn rfl dX8_firstLikeBehind_30 (mQ.ret (q1 h1))
  · have h1 : x2 < (mem 23 1) := by omega
    refine st_aload_n (i := 0) rfl (t := 0) rfl (by decide) dX8_firstLikeBehind_12 ?_
    refine st_iload_n (i := 2) rfl rfl dX8_firstLikeBehind_13 ?_
    refine st_iload_n (i := 1) rfl rfl dX8_firstLikeBehind_14 ?_
    refine st_callV (kc2 := 0) (ks2 := 0) (av := [(0, x2), (0, x1)]) 23 8 mr_X8_77 ok_X8_alike (c_X8_alike mem x2 x1 (s1) ((s2 h1)) ((s3 h1))) rfl sh_23 ⟨_, rfl, rfl, by decide⟩ rfl rfl hd3 (Nat.le_refl 0) (Nat.le_refl 0) (Nat.le_of_ble_eq_true rfl) dX8_firstLikeBehind_15 (mQ.elim fun v1 m1 hp => ?_)
    obtain ⟨hpv, hpm⟩ := hp
    subst hpv
    have hpm := hpm.symm
    subst hpm
    refine so_ifeqB 23 (by decide) dX8_firstLikeBehind_18 (fun h2 => ?_) (fun h2 => ?_)
    · have h2 : ¬ (likeF (mem 23 1) (mem 24) (mem 28) x2 x1) := h2
      refine st_iinc (y := (x2 + 1)) (by decide) (i := 2) rfl rfl (lc' := [(2, 23), (0, x1), (0, (x2 + 1))]) rfl dX8_firstLikeBehind_23 ?_
      refine st_goto 4 (by decide) dX8_firstLikeBehind_26 ?_
      exact st_locals [(2, 23), (0, x1), (0, (x2 + 1))] ⟨Or.inr rfl, Or.inr rfl, Or.inr rfl, trivial⟩ (k1 h1 h2)
    · have h2 : (likeF (mem 23 1) (mem 24) (mem 28) x2 x1) := h2
      refine st_iload_n (i := 2) rfl rfl dX8_firstLikeBehind_21 ?_
      exact st_ireturn rfl dX8_firstLikeBehind_22 (mQ.ret (q2 h1 h2))
theorem c_X8_likesOf (mem : mmM) (x1 : Int) (h1 : R32 x1) (hn : 0 ≤ mem 23 1 ∧ mem 23 1 ≤ 24) : con 0 bX8_likesOf 3 [(2, 23), (0, x1)] mem (fun v m => v = likesF (mem 23 1) (mem 24) (mem 28) x1 ∧ m = mem) := by
  refine cn_X8_likesOf (bk_X8_likesOf_0 ?_)
  have key : ∀ (k : Nat) (i acc : Int), k = (mem 23 1 - i).toNat → 0 ≤ i → i ≤ mem 23 1 → acc = sumTo (fun j => b2i (likeF (mem 23 1) (mem 24) (mem 28) j x1)) i.toNat → mmT bX8_likesOf 3 0 0 (mQ 0 (fun v m => v = likesF (mem 23 1) (mem 24) (mem 28) x1 ∧ m = mem)) 4 [(2, 23), (0, x1), (0, acc), (0, i)] [] mS mem := by
    intro k
    induction k using Nat.strongRecOn with
    | _ k ih =>
      intro i acc hk h0 h2 ha
      have hs : (i + 1).toNat = i.toNat + 1 := by omega
      have hi : ((i.toNat : Nat) : Int) = i := by omega
      refine bk_X8_likesOf_4 (fun g1 g2 => ih _ ?_ (i + 1) _ rfl (by omega) (by omega) ?_) (fun g1 g2 => ih _ ?_ (i + 1) _ rfl (by omega) (by omega) ?_) (fun g => ⟨?_, rfl⟩)
      · omega
      · rw [hs]
        unfold sumTo
        rw [hi, ← ha, b2i_0 g2]
      · omega
      · rw [hs]
        unfold sumTo
        rw [hi, ← ha, b2i_1 g2]
      · rw [ha]
        unfold likesF
        rw [show i = mem 23 1 by omega]
  exact key _ 0 0 rfl (by omega) (by omega) rfl
theorem c_X8_lastLikeAhead (mem : mmM) (x1 : Int) (h1 : 0 ≤ x1 ∧ x1 < 24) (hn : 0 ≤ mem 23 1 ∧ mem 23 1 ≤ 24) : con 0 bX8_lastLikeAhead 3 [(2, 23), (0, x1)] mem (fun v m => v = aheadF (mem 23 1) (mem 24) (mem 28) x1 ∧ m = mem) := by
  refine cn_X8_lastLikeAhead (bk_X8_lastLikeAhead_0 ?_)
  have key : ∀ (k : Nat), (k : Int) ≤ x1 → dnTo (fun i => decide (likeF (mem 23 1) (mem 24) (mem 28) i x1)) k = aheadF (mem 23 1) (mem 24) (mem 28) x1 → mmT bX8_lastLikeAhead 3 0 0 (mQ 0 (fun v m => v = aheadF (mem 23 1) (mem 24) (mem 28) x1 ∧ m = mem)) 4 [(2, 23), (0, x1), (0, (k : Int) - 1)] [] mS mem := by
    intro k
    induction k with
    | zero =>
      intro h2 h3
      refine bk_X8_lastLikeAhead_4 (fun g => by omega) (fun g => ⟨?_, rfl⟩) (fun g => by omega)
      rw [← h3]
      rfl
    | succ k ih =>
      intro h2 h3
      rw [dnTo_succ] at h3
      have e : (((k + 1 : Nat) : Int) - 1) = k := by omega
      rw [e]
      refine bk_X8_lastLikeAhead_4 (fun g1 g2 => ?_) (fun g => by omega) (fun g1 g2 => ⟨?_, rfl⟩)
      · exact ih (by omega) (by rw [if_neg (fun q => g2 (of_decide_eq_true q))] at h3; exact h3)
      · rw [if_pos (decide_eq_true g2)] at h3
        exact h3
  have := key x1.toNat (by omega) rfl
  rw [Int.toNat_of_nonneg h1.1] at this
  exact this
theorem c_X8_firstLikeBehind (mem : mmM) (x1 : Int) (h1 : 0 ≤ x1 ∧ x1 < 24) (hn : 0 ≤ mem 23 1 ∧ mem 23 1 ≤ 24) : con 0 bX8_firstLikeBehind 3 [(2, 23), (0, x1)] mem (fun v m => v = behindF (mem 23 1) (mem 24) (mem 28) x1 ∧ m = mem) := by
  refine cn_X8_firstLikeBehind (bk_X8_firstLikeBehind_0 ?_)
  have key : ∀ (k : Nat) (i : Int), 0 ≤ i → k = (mem 23 1 - i).toNat → i ≤ 25 → upFrom (fun i => decide (likeF (mem 23 1) (mem 24) (mem 28) i x1)) i k = behindF (mem 23 1) (mem 24) (mem 28) x1 → mmT bX8_firstLikeBehind 3 0 0 (mQ 0 (fun v m => v = behindF (mem 23 1) (mem 24) (mem 28) x1 ∧ m = mem)) 4 [(2, 23), (0, x1), (0, i)] [] mS mem := by
    intro k
    induction k with
    | zero =>
      intro i h0 h2 h25 h3
      refine bk_X8_firstLikeBehind_4 (fun g => by omega) (fun g => ⟨?_, rfl⟩) (fun g => by omega)
      rw [← h3]
      rfl
    | succ k ih =>
      intro i h0 h2 h25 h3
      rw [upFrom_succ] at h3
      refine bk_X8_firstLikeBehind_4 (fun g1 g2 => ?_) (fun g => by omega) (fun g1 g2 => ⟨?_, rfl⟩)
      · exact ih (i + 1) (by omega) (by omega) (by omega) (by rw [if_neg (fun q => g2 (of_decide_eq_true q))] at h3; exact h3)
      · rw [if_pos (decide_eq_true g2)] at h3
        exact h3
  exact key _ (x1 + 1) (by omega) rfl (by omega) rfl
theorem cn_X4_target {d : Nat} {P : Int → mmM → Prop} {mem : mmM} {x1 : Int} (h : mmT bX4_target d 0 0 (mQ 0 P) 0 [(2, 35), (0, x1), (9, 0), (9, 0)] [] mS mem) : con 0 bX4_target d [(2, 35), (0, x1)] mem P := mmC_of [(2, 35), (0, x1), (9, 0), (9, 0)] ok_X4_target.2.2.2.2 rfl (Nat.le_of_ble_eq_true rfl) h
theorem bk_X4_target_0 {d : Nat} {P : Int → mmM → Prop} {mem : mmM} {x1 : Int}
  (q1 : (mem 36 (mem 24 x1)) = 0 → P (-1) mem)
  (q2 : ¬ (mem 36 (mem 24 x1)) = 0 → (mem 36 (mem 24 x1)) = 1 → P (behindF (mem 23 1) (mem 24) (mem 28) x1) mem)
  (q3 : ¬ (mem 36 (mem 24 x1)) = 0 → ¬ (mem 36 (mem 24 x1)) = 1 → (mem 36 (mem 24 x1)) = 2 → P (aheadF (mem 23 1) (mem 24) (mem 28) x1) mem)
  (q4 : ¬ (mem 36 (mem 24 x1)) = 0 → ¬ (mem 36 (mem 24 x1)) = 1 → ¬ (mem 36 (mem 24 x1)) = 2 → (aheadF (mem 23 1) (mem 24) (mem 28) x1) = (-1) → P (max (aheadF (mem 23 1) (mem 24) (mem 28) x1) (behindF (mem 23 1) (mem 24) (mem 28) x1)) mem)
  (q5 : ¬ (mem 36 (mem 24 x1)) = 0 → ¬ (mem 36 (mem 24 x1)) = 1 → ¬ (mem 36 (mem 24 x1)) = 2 → ¬ (aheadF (mem 23 1) (mem 24) (mem 28) x1) = (-1) → ¬ (behindF (mem 23 1) (mem 24) (mem 28) x1) = (-1) → ((behindF (mem 23 1) (mem 24) (mem 28) x1) - x1) < (x1 - (aheadF (mem 23 1) (mem 24) (mem 28) x1)) → P (behindF (mem 23 1) (mem 24) (mem 28) x1) mem)
  (q6 : ¬ (mem 36 (mem 24 x1)) = 0 → ¬ (mem 36 (mem 24 x1)) = 1 → ¬ (mem 36 (mem 24 x1)) = 2 → ¬ (aheadF (mem 23 1) (mem 24) (mem 28) x1) = (-1) → ¬ (behindF (mem 23 1) (mem 24) (mem 28) x1) = (-1) → (x1 - (aheadF (mem 23 1) (mem 24) (mem 28) x1)) ≤ ((behindF (mem 23 1) (mem 24) (mem 28) x1) - x1) → P (aheadF (mem 23 1) (mem 24) (mem 28) x1) mem)
  (q7 : ¬ (mem 36 (mem 24 x1)) = 0 → ¬ (mem 36 (mem 24 x1)) = 1 → ¬ (mem 36 (mem 24 x1)) = 2 → ¬ (aheadF (mem 23 1) (mem 24) (mem 28) x1) = (-1) → (behindF (mem 23 1) (mem 24) (mem 28) x1) = (-1) → P (max (aheadF (mem 23 1) (mem 24) (mem 28) x1) (behindF (mem 23 1) (mem 24) (mem 28) x1)) mem)
  (hd1 : 1 ≤ d := by omega)
  (hd4 : 4 ≤ d := by omega)
  (s1 : 0 ≤ x1 ∧ x1 < 24 := by intros; omega)
  (s2 : 0 ≤ (mem 23 1) ∧ (mem 23 1) ≤ 24 := by intros; omega)
  (s3 : 0 ≤ (mem 24 x1) ∧ (mem 24 x1) < 8 := by intros; omega)
  (s4 : ¬ (mem 36 (mem 24 x1)) = 0 → ¬ (mem 36 (mem 24 x1)) = 1 → ¬ (mem 36 (mem 24 x1)) = 2 → ¬ (aheadF (mem 23 1) (mem 24) (mem 28) x1) = (-1) → ¬ (behindF (mem 23 1) (mem 24) (mem 28) x1) = (-1) → R32 (x1 - (aheadF (mem 23 1) (mem 24) (mem 28) x1)) := by intros; omega)
  (s5 : ¬ (mem 36 (mem 24 x1)) = 0 → ¬ (mem 36 (mem 24 x1)) = 1 → ¬ (mem 36 (mem 24 x1)) = 2 → ¬ (aheadF (mem 23 1) (mem 24) (mem 28) x1) = (-1) → ¬ (behindF (mem 23 1) (mem 24) (mem 28) x1) = (-1) → R32 ((behindF (mem 23 1) (mem 24) (mem 28) x1) - x1) := by intros; omega)
  : mmT bX4_target d 0 0 (mQ 0 P) 0 [(2, 35), (0, x1), (9, 0), (9, 0)] [] mS mem := by
  refine st_aload_n (i := 0) rfl (t := 0) rfl (by decide) dX4_target_0 ?_
  refine so_getA 35 0 fr_X4_26_4 rfl sh_35 fx_35_0 dX4_target_1 ?_
  refine st_iload_n (i := 1) rfl rfl dX4_target_4 ?_
  refine st_callV (kc2 := 0) (ks2 := 0) (av := [(0, x1)]) 23 8 mr_X4_46 ok_X8_lastLikeAhead (c_X8_lastLikeAhead mem x1 (s1) (s2)) rfl sh_23 ⟨_, rfl, rfl, by decide⟩ rfl rfl hd4 (Nat.le_refl 0) (Nat.le_refl 0) (Nat.le_of_ble_eq_true rfl) dX4_target_5 (mQ.elim fun v1 m1 hp => ?_)
  obtain ⟨hpv, hpm⟩ := hp
  subst hpv
  have hpm := hpm.symm
  subst hpm
  refine st_istore_n (i := 2) rfl (by decide) (lc' := [(2, 35), (0, x1), (0, (aheadF (mem 23 1) (mem 24) (mem 28) x1)), (9, 0)]) rfl dX4_target_8 ?_
  refine st_aload_n (i := 0) rfl (t := 0) rfl (by decide) dX4_target_9 ?_
  refine so_getA 35 0 fr_X4_26_4 rfl sh_35 fx_35_0 dX4_target_10 ?_
  refine st_iload_n (i := 1) rfl rfl dX4_target_13 ?_
  refine st_callV (kc2 := 0) (ks2 := 0) (av := [(0, x1)]) 23 8 mr_X4_49 ok_X8_firstLikeBehind (c_X8_firstLikeBehind mem x1 (s1) (s2)) rfl sh_23 ⟨_, rfl, rfl, by decide⟩ rfl rfl hd4 (Nat.le_refl 0) (Nat.le_refl 0) (Nat.le_of_ble_eq_true rfl) dX4_target_14 (mQ.elim fun v2 m2 hp => ?_)
  obtain ⟨hpv, hpm⟩ := hp
  subst hpv
  have hpm := hpm.symm
  subst hpm
  refine st_istore_n (i := 3) rfl (by decide) (lc' := [(2, 35), (0, x1), (0, (aheadF (mem 23 1) (mem 24) (mem 28) x1)), (0, (behindF (mem 23 1) (mem 24) (mem 28) x1))]) rfl dX4_target_17 ?_
  refine st_aload_n (i := 0) rfl (t := 0) rfl (by decide) dX4_target_18 ?_
  refine so_getA 35 1 fr_X4_9_4 rfl sh_35 fx_35_1 dX4_target_19 ?_
  refine st_aload_n (i := 0) rfl (t := 0) rfl (by decide) dX4_target_22 ?_
  refine so_getA 35 0 fr_X4_26_4 rfl sh_35 fx_35_0 dX4_target_23 ?_
  refine so_getA 23 2 fr_X4_52_8 rfl sh_23 fx_23_2 dX4_target_26 ?_
  refine st_iload_n (i := 1) rfl rfl dX4_target_29 ?_
  refine so_iald (v := (mem 24 x1)) 24 rfl sh_24 (by decide) s1 rfl dX4_target_30 (fun r1 => ?_)
  refine so_iald (v := (mem 36 (mem 24 x1))) 36 rfl sh_36 (by decide) s3 rfl dX4_target_31 (fun r2 => ?_)
  by_cases h1 : (mem 36 (mem 24 x1)) = 0
  · refine so_tabI 60 r2 0 h1 (by decide) (by decide) rfl (by decide) dX4_target_32 ?_
    refine st_iconst dX4_target_60 ?_
    exact st_ireturn rfl dX4_target_61 (mQ.ret (q1 h1))
  by_cases h2 : (mem 36 (mem 24 x1)) = 1
  · refine so_tabI 62 r2 1 h2 (by decide) (by decide) rfl (by decide) dX4_target_32 ?_
    refine st_iload_n (i := 3) rfl rfl dX4_target_62 ?_
    exact st_ireturn rfl dX4_target_63 (mQ.ret (q2 h1 h2))
  by_cases h3 : (mem 36 (mem 24 x1)) = 2
  · refine so_tabI 64 r2 2 h3 (by decide) (by decide) rfl (by decide) dX4_target_32 ?_
    refine st_iload_n (i := 2) rfl rfl dX4_target_64 ?_
    exact st_ireturn rfl dX4_target_65 (mQ.ret (q3 h1 h2 h3))
  refine so_tabO 66 r2 (by omega) (by decide) dX4_target_32 ?_
  refine st_iload_n (i := 2) rfl rfl dX4_target_66 ?_
  refine st_iconst dX4_target_67 ?_
  refine sr_icmp_eq 76 (aheadF_rng (s1) (s2)) ⟨by decide, by decide⟩ (by decide) dX4_target_68 (fun h4 => ?_) (fun h4 => ?_)
  · have h4 : (aheadF (mem 23 1) (mem 24) (mem 28) x1) = (-1) := by omega
    refine st_iload_n (i := 2) rfl rfl dX4_target_76 ?_
    refine st_iload_n (i := 3) rfl rfl dX4_target_77 ?_
    refine sr_mmax (aheadF_rng (s1) (s2)) (behindF_rng (s1) (s2)) mr_X4_55 ms_maxi mi_Math mc_maxi hd1 (Nat.le_of_ble_eq_true rfl) dX4_target_78 ?_
    exact st_ireturn rfl dX4_target_81 (mQ.ret (q4 h1 h2 h3 h4))
  · have h4 : ¬ (aheadF (mem 23 1) (mem 24) (mem 28) x1) = (-1) := by omega
    refine st_iload_n (i := 3) rfl rfl dX4_target_71 ?_
    refine st_iconst dX4_target_72 ?_
    refine sr_icmp_ne 82 (behindF_rng (s1) (s2)) ⟨by decide, by decide⟩ (by decide) dX4_target_73 (fun h5 => ?_) (fun h5 => ?_)
    · have h5 : ¬ (behindF (mem 23 1) (mem 24) (mem 28) x1) = (-1) := by omega
      refine st_iload_n (i := 1) rfl rfl dX4_target_82 ?_
      refine st_iload_n (i := 2) rfl rfl dX4_target_83 ?_
      refine st_isub dX4_target_84 ?_
      refine st_iload_n (i := 3) rfl rfl dX4_target_85 ?_
      refine st_iload_n (i := 1) rfl rfl dX4_target_86 ?_
      refine st_isub dX4_target_87 ?_
      refine sr_icmp_gt 95 (s4 h1 h2 h3 h4 h5) (s5 h1 h2 h3 h4 h5) (by decide) dX4_target_88 (fun h6 => ?_) (fun h6 => ?_)
      · have h6 : ((behindF (mem 23 1) (mem 24) (mem 28) x1) - x1) < (x1 - (aheadF (mem 23 1) (mem 24) (mem 28) x1)) := by omega
        refine st_iload_n (i := 3) rfl rfl dX4_target_95 ?_
        exact st_ireturn rfl dX4_target_96 (mQ.ret (q5 h1 h2 h3 h4 h5 h6))
      · have h6 : (x1 - (aheadF (mem 23 1) (mem 24) (mem 28) x1)) ≤ ((behindF (mem 23 1) (mem 24) (mem 28) x1) - x1) := by omega
        refine st_iload_n (i := 2) rfl rfl dX4_target_91 ?_
        refine st_goto 96 (by decide) dX4_target_92 ?_
        exact st_ireturn rfl dX4_target_96 (mQ.ret (q6 h1 h2 h3 h4 h5 h6))
    · have h5 : (behindF (mem 23 1) (mem 24) (mem 28) x1) = (-1) := by omega
      refine st_iload_n (i := 2) rfl rfl dX4_target_76 ?_
      refine st_iload_n (i := 3) rfl rfl dX4_target_77 ?_
      refine sr_mmax (aheadF_rng (s1) (s2)) (behindF_rng (s1) (s2)) mr_X4_55 ms_maxi mi_Math mc_maxi hd1 (Nat.le_of_ble_eq_true rfl) dX4_target_78 ?_
      exact st_ireturn rfl dX4_target_81 (mQ.ret (q7 h1 h2 h3 h4 h5))
theorem leapF_bnd {kd n : Int} {a c : Int → Int} {s : Int} (h : 0 ≤ s) (hn : s < n) : -1 ≤ leapF kd n a c s ∧ leapF kd n a c s < n := by
  have h1 := aheadF_bnd n a c h
  have h2 := behindF_bnd n a c h hn
  unfold leapF
  repeat' split <;> omega
theorem leapF_rng {kd n : Int} {a c : Int → Int} {s : Int} (h : 0 ≤ s ∧ s < 24) (hn : 0 ≤ n ∧ n ≤ 24) {z : Int} (_ : 0 ≤ z ∧ z < 8) : R32 (leapF kd n a c s) := by
  have h1 := aheadF_rng (a := a) (c := c) h hn
  have h2 := behindF_rng (a := a) (c := c) h hn
  unfold leapF
  repeat' split <;> omega
theorem c_X4_target (mem : mmM) (x1 : Int) (h1 : 0 ≤ x1 ∧ x1 < 24) (hn : 0 ≤ mem 23 1 ∧ mem 23 1 ≤ 24) (ha : 0 ≤ mem 24 x1 ∧ mem 24 x1 < 8) : con 0 bX4_target 4 [(2, 35), (0, x1)] mem (fun v m => v = leapF (mem 36 (mem 24 x1)) (mem 23 1) (mem 24) (mem 28) x1 ∧ m = mem) := by
  have q1 := aheadF_bnd (mem 23 1) (mem 24) (mem 28) h1.1
  have q2 := behindF_rng (a := mem 24) (c := mem 28) h1 hn
  have q3 := upFrom_spec (fun i => decide (likeF (mem 23 1) (mem 24) (mem 28) i x1)) (mem 23 1 - (x1 + 1)).toNat (x1 + 1) (by omega)
  have q4 : behindF (mem 23 1) (mem 24) (mem 28) x1 = upFrom (fun i => decide (likeF (mem 23 1) (mem 24) (mem 28) i x1)) (x1 + 1) (mem 23 1 - (x1 + 1)).toNat := rfl
  rw [← q4] at q3
  refine cn_X4_target (bk_X4_target_0 ?_ ?_ ?_ ?_ ?_ ?_ ?_) <;> (intros; refine ⟨?_, rfl⟩; unfold leapF; repeat' split) <;> first | rfl | omega
/-- the row a holds f up to i -/
def rowTo (mem : mmM) (a : Nat) (f : Int → Int) (i : Int) : mmM := mrow mem a (fun j => if 0 ≤ j ∧ j < i then f j else mem a j)
theorem rowTo_0 (mem : mmM) (a : Nat) (f : Int → Int) : rowTo mem a f 0 = mem := by
  funext a' j
  simp only [rowTo, mrow]
  by_cases h : a' = a
  · subst h
    rw [if_pos rfl, if_neg (by omega)]
  · rw [if_neg h]
theorem rowTo_step (mem : mmM) (a : Nat) (f : Int → Int) {i : Int} (h : 0 ≤ i) : mset (rowTo mem a f i) a i (f i) = rowTo mem a f (i + 1) := by
  funext a' j
  simp only [rowTo, mrow, mset]
  by_cases ha : a' = a
  · subst ha
    by_cases hj : j = i
    · subst hj
      rw [if_pos ⟨rfl, rfl⟩, if_pos rfl, if_pos (by omega)]
    · rw [if_neg (by omega), if_pos rfl, if_pos rfl]
      by_cases q : 0 ≤ j ∧ j < i
      · rw [if_pos q, if_pos (by omega)]
      · rw [if_neg q, if_neg (by omega)]
  · rw [if_neg (by omega), if_neg ha, if_neg ha]
theorem rowTo_ne (mem : mmM) {a a' : Nat} (f : Int → Int) (i : Int) (h : a' ≠ a) : rowTo mem a f i a' = mem a' := mrow_ne h
theorem rowTo_in (mem : mmM) (a : Nat) (f : Int → Int) {i j : Int} (h : 0 ≤ j ∧ j < i) : rowTo mem a f i a j = f j := by
  unfold rowTo
  rw [mrow_same, if_pos h]
theorem rowTo_out (mem : mmM) (a : Nat) (f : Int → Int) {i j : Int} (h : ¬ (0 ≤ j ∧ j < i)) : rowTo mem a f i a j = mem a j := by
  unfold rowTo
  rw [mrow_same, if_neg h]
theorem cn_X4_plan {d : Nat} {P : mmM → Prop} {mem : mmM} (h : mmT bX4_plan d 0 0 (mQv P) 0 [(2, 35), (9, 0)] [] mS mem) : conv bX4_plan d [(2, 35)] mem P := mmC_of [(2, 35), (9, 0)] ok_X4_plan.2.2.2.2 rfl (Nat.le_of_ble_eq_true rfl) h
theorem bk_X4_plan_0 {d : Nat} {P : mmM → Prop} {mem : mmM}
  (k1 : mmT bX4_plan d 0 0 (mQv P) 2 [(2, 35), (0, 0)] [] mS mem)
  : mmT bX4_plan d 0 0 (mQv P) 0 [(2, 35), (9, 0)] [] mS mem := by
  refine st_iconst dX4_plan_0 ?_
  refine st_istore_n (i := 1) rfl (by decide) (lc' := [(2, 35), (0, 0)]) rfl dX4_plan_1 ?_
  exact st_locals [(2, 35), (0, 0)] ⟨Or.inr rfl, Or.inr rfl, trivial⟩ k1
theorem bk_X4_plan_2 {d : Nat} {P : mmM → Prop} {mem : mmM} {x1 : Int}
  (k1 : x1 < (mem 23 1) → mmT bX4_plan d 0 0 (mQv P) 2 [(2, 35), (0, (x1 + 1))] [] mS (mset mem 38 x1 (leapF (mem 36 (mem 24 x1)) (mem 23 1) (mem 24) (mem 28) x1)))
  (q1 : (mem 23 1) ≤ x1 → P mem)
  (hd5 : 5 ≤ d := by omega)
  (s1 : R32 x1 := by intros; omega)
  (s2 : x1 < (mem 23 1) → 0 ≤ x1 ∧ x1 < 24 := by intros; omega)
  (s3 : x1 < (mem 23 1) → 0 ≤ (mem 23 1) ∧ (mem 23 1) ≤ 24 := by intros; omega)
  (s4 : x1 < (mem 23 1) → 0 ≤ (mem 24 x1) ∧ (mem 24 x1) < 8 := by intros; omega)
  : mmT bX4_plan d 0 0 (mQv P) 2 [(2, 35), (0, x1)] [] mS mem := by
  refine st_iload_n (i := 1) rfl rfl dX4_plan_2 ?_
  refine st_aload_n (i := 0) rfl (t := 0) rfl (by decide) dX4_plan_3 ?_
  refine so_getA 35 0 fr_X4_26_4 rfl sh_35 fx_35_0 dX4_plan_4 ?_
  refine so_getI (v := (mem 23 1)) 23 1 fr_X4_36_8 rfl sh_23 rfl dX4_plan_7 (fun r1 => ?_)
  refine sr_icmp_ge 30 s1 r1 (by decide) dX4_plan_10 (fun h1 => ?_) (fun h1 => ?_)
  · have h1 : (mem 23 1) ≤ x1 := by omega
    exact st_return rfl dX4_plan_30 (mQv.ret (q1 h1))
  · have h1 : x1 < (mem 23 1) := by omega
    refine st_aload_n (i := 0) rfl (t := 0) rfl (by decide) dX4_plan_13 ?_
    refine so_getA 35 3 fr_X4_18_4 rfl sh_35 fx_35_3 dX4_plan_14 ?_
    refine st_iload_n (i := 1) rfl rfl dX4_plan_17 ?_
    refine st_aload_n (i := 0) rfl (t := 0) rfl (by decide) dX4_plan_18 ?_
    refine st_iload_n (i := 1) rfl rfl dX4_plan_19 ?_
    refine st_callV (kc2 := 0) (ks2 := 0) (av := [(0, x1)]) 35 4 mr_X4_42 ok_X4_target (c_X4_target mem x1 ((s2 h1)) ((s3 h1)) ((s4 h1))) rfl sh_35 ⟨_, rfl, rfl, by decide⟩ rfl rfl hd5 (Nat.le_refl 0) (Nat.le_refl 0) (Nat.le_of_ble_eq_true rfl) dX4_plan_20 (mQ.elim fun v1 m1 hp => ?_)
    obtain ⟨hpv, hpm⟩ := hp
    subst hpv
    have hpm := hpm.symm
    subst hpm
    refine so_iast 38 fr_38 rfl sh_38 (by decide) (s2 h1) (leapF_rng ((s2 h1)) ((s3 h1)) ((s4 h1))) dX4_plan_23 ?_
    refine st_iinc (y := (x1 + 1)) (by decide) (i := 1) rfl rfl (lc' := [(2, 35), (0, (x1 + 1))]) rfl dX4_plan_24 ?_
    refine st_goto 2 (by decide) dX4_plan_27 ?_
    exact st_locals [(2, 35), (0, (x1 + 1))] ⟨Or.inr rfl, Or.inr rfl, trivial⟩ (k1 h1)
def planX (mem : mmM) : mmM := rowTo mem 38 (fun i => leapF (mem 36 (mem 24 i)) (mem 23 1) (mem 24) (mem 28) i) (mem 23 1)
theorem c_X4_plan (mem : mmM) (hn : 0 ≤ mem 23 1 ∧ mem 23 1 ≤ 24) (ha : ∀ i, 0 ≤ i → i < mem 23 1 → 0 ≤ mem 24 i ∧ mem 24 i < 8) : conv bX4_plan 5 [(2, 35)] mem (fun m' => m' = planX mem) := by
  refine cn_X4_plan (bk_X4_plan_0 ?_)
  have key : ∀ (k : Nat) (i : Int) (m : mmM), k = (mem 23 1 - i).toNat → 0 ≤ i → i ≤ mem 23 1 → m = rowTo mem 38 (fun i => leapF (mem 36 (mem 24 i)) (mem 23 1) (mem 24) (mem 28) i) i → mmT bX4_plan 5 0 0 (mQv (fun m' => m' = planX mem)) 2 [(2, 35), (0, i)] [] mS m := by
    intro k
    induction k using Nat.strongRecOn with
    | _ k ih =>
      intro i m hk h0 h1 hm
      have e23 : m 23 = mem 23 := by rw [hm]; exact rowTo_ne _ _ _ (by decide)
      have e24 : m 24 = mem 24 := by rw [hm]; exact rowTo_ne _ _ _ (by decide)
      have e28 : m 28 = mem 28 := by rw [hm]; exact rowTo_ne _ _ _ (by decide)
      have e36 : m 36 = mem 36 := by rw [hm]; exact rowTo_ne _ _ _ (by decide)
      refine bk_X4_plan_2 (fun g => ih _ ?_ (i + 1) _ rfl (by omega) ?_ ?_) (fun g => ?_) (s2 := ?_) (s3 := ?_) (s4 := ?_)
      · rw [e23] at g
        omega
      · rw [e23] at g
        omega
      · rw [e23, e24, e28, e36, hm]
        exact rowTo_step mem 38 _ h0
      · rw [e23] at g
        rw [hm, show i = mem 23 1 by omega]
        rfl
      · rw [e23]
        omega
      · rw [e23]
        omega
      · rw [e23, e24]
        intro g
        exact ha i h0 g
  exact key _ 0 mem rfl (by omega) (by omega) (rowTo_0 _ _ _).symm
