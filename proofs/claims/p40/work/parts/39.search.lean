/-! the search through evenings with few losses -/
def stlE (long : Int) (b c : Int × Int) : Int × Int := if b.1 = -1 ∨ (if long = 0 then c.1 < b.1 else b.1 < c.1) ∨ (c.1 = b.1 ∧ c.2 < b.2) then c else b
theorem stlE_bst (long : Int) (b c : Int × Int) (hc : ¬ c.1 = -1) : bstE long b (fun x y => x = c.1 ∧ y = c.2) (stlE long b c) := by
  have hx : ∀ x y, (x = c.1 ∧ y = c.2) → c = (x, y) := fun x y h => Prod.ext h.1.symm h.2.symm
  by_cases g : b.1 = -1 ∨ (if long = 0 then c.1 < b.1 else b.1 < c.1) ∨ (c.1 = b.1 ∧ c.2 < b.2)
  · have e : stlE long b c = c := if_pos g
    rw [e]
    refine ⟨Or.inr ⟨⟨rfl, rfl⟩, hc⟩, fun h => ⟨hc, ?_⟩, fun x y h => ⟨hc, ?_⟩⟩
    · unfold leqE
      rcases g with g | g | g
      · exact absurd g h
      · exact Or.inl g
      · exact Or.inr ⟨g.1, by omega⟩
    · rw [hx x y h]
      exact leqE_refl _ _
  · have e : stlE long b c = b := if_neg g
    rw [e]
    have g1 : ¬ b.1 = -1 := fun z => g (Or.inl z)
    refine ⟨Or.inl rfl, fun h => ⟨h, leqE_refl _ _⟩, fun x y h => ⟨g1, ?_⟩⟩
    rw [← hx x y h]
    unfold leqE
    by_cases q : long = 0
    · rw [if_pos q] at *
      omega
    · rw [if_neg q] at *
      omega
def exFr (mem m : mmM) : Prop := (∀ a, a ≠ 50 → m a = mem a) ∧ ∀ j, j ≠ 9 → j ≠ 10 → m 50 j = mem 50 j
theorem exFr.trans {m0 m1 m2 : mmM} (h : exFr m0 m1) (h' : exFr m1 m2) : exFr m0 m2 := ⟨fun a ha => (h'.1 a ha).trans (h.1 a ha), fun j j1 j2 => (h'.2 j j1 j2).trans (h.2 j j1 j2)⟩
theorem cn_X1_settle {d : Nat} {P : mmM → Prop} {mem : mmM} {x1 x2 : Int} (h : mmT bX1_settle d 0 0 (mQv P) 0 [(2, 50), (0, x1), (0, x2), (9, 0)] [] mS mem) : conv bX1_settle d [(2, 50), (0, x1), (0, x2)] mem P := mmC_of [(2, 50), (0, x1), (0, x2), (9, 0)] ok_X1_settle.2.2.2.2 rfl (Nat.le_of_ble_eq_true rfl) h
theorem bk_X1_settle_0 {d : Nat} {P : mmM → Prop} {mem : mmM} {x1 x2 : Int}
  (q1 : x1 ≤ 200 → (mem 50 8) = 0 → (mem 50 9) ≤ x1 → (mem 50 9) = (-1) → P (mset (mset mem 50 9 x1) 50 10 x2))
  (q2 : x1 ≤ 200 → (mem 50 8) = 0 → (mem 50 9) ≤ x1 → ¬ (mem 50 9) = (-1) → ¬ x1 = (mem 50 9) → P mem)
  (q3 : x1 ≤ 200 → (mem 50 8) = 0 → (mem 50 9) ≤ x1 → ¬ (mem 50 9) = (-1) → x1 = (mem 50 9) → (mem 50 10) ≤ x2 → P mem)
  (q4 : x1 ≤ 200 → (mem 50 8) = 0 → (mem 50 9) ≤ x1 → ¬ (mem 50 9) = (-1) → x1 = (mem 50 9) → x2 < (mem 50 10) → P (mset (mset mem 50 9 x1) 50 10 x2))
  (q5 : x1 ≤ 200 → (mem 50 8) = 0 → x1 < (mem 50 9) → (mem 50 9) = (-1) → P (mset (mset mem 50 9 x1) 50 10 x2))
  (q6 : x1 ≤ 200 → (mem 50 8) = 0 → x1 < (mem 50 9) → ¬ (mem 50 9) = (-1) → P (mset (mset mem 50 9 x1) 50 10 x2))
  (q7 : x1 ≤ 200 → ¬ (mem 50 8) = 0 → x1 ≤ (mem 50 9) → (mem 50 9) = (-1) → P (mset (mset mem 50 9 x1) 50 10 x2))
  (q8 : x1 ≤ 200 → ¬ (mem 50 8) = 0 → x1 ≤ (mem 50 9) → ¬ (mem 50 9) = (-1) → ¬ x1 = (mem 50 9) → P mem)
  (q9 : x1 ≤ 200 → ¬ (mem 50 8) = 0 → x1 ≤ (mem 50 9) → ¬ (mem 50 9) = (-1) → x1 = (mem 50 9) → (mem 50 10) ≤ x2 → P mem)
  (q10 : x1 ≤ 200 → ¬ (mem 50 8) = 0 → x1 ≤ (mem 50 9) → ¬ (mem 50 9) = (-1) → x1 = (mem 50 9) → x2 < (mem 50 10) → P (mset (mset mem 50 9 x1) 50 10 x2))
  (q11 : x1 ≤ 200 → ¬ (mem 50 8) = 0 → (mem 50 9) < x1 → (mem 50 9) = (-1) → P (mset (mset mem 50 9 x1) 50 10 x2))
  (q12 : x1 ≤ 200 → ¬ (mem 50 8) = 0 → (mem 50 9) < x1 → ¬ (mem 50 9) = (-1) → P (mset (mset mem 50 9 x1) 50 10 x2))
  (q13 : 200 < x1 → P mem)
  (s1 : R32 x1 := by intros; first | omega | assumption | solve_by_elim)
  (s2 : x1 ≤ 200 → (mem 50 8) = 0 → (mem 50 9) ≤ x1 → (mem 50 9) = (-1) → R32 x2 := by intros; first | omega | assumption | solve_by_elim)
  (s3 : x1 ≤ 200 → (mem 50 8) = 0 → (mem 50 9) ≤ x1 → ¬ (mem 50 9) = (-1) → x1 = (mem 50 9) → R32 x2 := by intros; first | omega | assumption | solve_by_elim)
  (s4 : x1 ≤ 200 → (mem 50 8) = 0 → x1 < (mem 50 9) → (mem 50 9) = (-1) → R32 x2 := by intros; first | omega | assumption | solve_by_elim)
  (s5 : x1 ≤ 200 → (mem 50 8) = 0 → x1 < (mem 50 9) → ¬ (mem 50 9) = (-1) → R32 x2 := by intros; first | omega | assumption | solve_by_elim)
  (s6 : x1 ≤ 200 → ¬ (mem 50 8) = 0 → x1 ≤ (mem 50 9) → (mem 50 9) = (-1) → R32 x2 := by intros; first | omega | assumption | solve_by_elim)
  (s7 : x1 ≤ 200 → ¬ (mem 50 8) = 0 → x1 ≤ (mem 50 9) → ¬ (mem 50 9) = (-1) → x1 = (mem 50 9) → R32 x2 := by intros; first | omega | assumption | solve_by_elim)
  (s8 : x1 ≤ 200 → ¬ (mem 50 8) = 0 → (mem 50 9) < x1 → (mem 50 9) = (-1) → R32 x2 := by intros; first | omega | assumption | solve_by_elim)
  (s9 : x1 ≤ 200 → ¬ (mem 50 8) = 0 → (mem 50 9) < x1 → ¬ (mem 50 9) = (-1) → R32 x2 := by intros; first | omega | assumption | solve_by_elim)
  : mmT bX1_settle d 0 0 (mQv P) 0 [(2, 50), (0, x1), (0, x2), (9, 0)] [] mS mem := by
  refine st_iload_n (i := 1) rfl rfl dX1_settle_0 ?_
  refine st_sipush rfl dX1_settle_1 ?_
  refine sr_icmp_le 8 s1 ⟨by decide, by decide⟩ (by decide) dX1_settle_4 (fun h1 => ?_) (fun h1 => ?_)
  · have h1 : x1 ≤ 200 := by omega
    refine st_aload_n (i := 0) rfl (t := 0) rfl (by decide) dX1_settle_8 ?_
    refine so_getI (v := (mem 50 8)) 50 8 fr_X1_39_1 rfl sh_50 rfl dX1_settle_9 (fun r1 => ?_)
    refine sr_if_eq 31 r1 (by decide) dX1_settle_12 (fun h2 => ?_) (fun h2 => ?_)
    · have h2 : (mem 50 8) = 0 := by omega
      refine st_iload_n (i := 1) rfl rfl dX1_settle_31 ?_
      refine st_aload_n (i := 0) rfl (t := 0) rfl (by decide) dX1_settle_32 ?_
      refine so_getI (v := (mem 50 9)) 50 9 fr_X1_43_1 rfl sh_50 rfl dX1_settle_33 (fun r2 => ?_)
      refine sr_icmp_ge 43 s1 r2 (by decide) dX1_settle_36 (fun h3 => ?_) (fun h3 => ?_)
      · have h3 : (mem 50 9) ≤ x1 := by omega
        refine st_iconst dX1_settle_43 ?_
        refine st_istore_n (i := 3) rfl (by decide) (lc' := [(2, 50), (0, x1), (0, x2), (0, 0)]) rfl dX1_settle_44 ?_
        refine st_aload_n (i := 0) rfl (t := 0) rfl (by decide) dX1_settle_45 ?_
        refine so_getI (v := (mem 50 9)) 50 9 fr_X1_43_1 rfl sh_50 rfl dX1_settle_46 (fun r3 => ?_)
        refine st_iconst dX1_settle_49 ?_
        refine sr_icmp_eq 73 r3 ⟨by decide, by decide⟩ (by decide) dX1_settle_50 (fun h4 => ?_) (fun h4 => ?_)
        · have h4 : (mem 50 9) = (-1) := by omega
          refine st_aload_n (i := 0) rfl (t := 0) rfl (by decide) dX1_settle_73 ?_
          refine st_iload_n (i := 1) rfl rfl dX1_settle_74 ?_
          refine so_putI 50 9 fr_X1_43_1 pf_1_9 fo_50_9 rfl sh_50 s1 dX1_settle_75 ?_
          refine st_aload_n (i := 0) rfl (t := 0) rfl (by decide) dX1_settle_78 ?_
          refine st_iload_n (i := 2) rfl rfl dX1_settle_79 ?_
          refine so_putI 50 10 fr_X1_46_1 pf_1_10 fo_50_10 rfl sh_50 (s2 h1 h2 h3 h4) dX1_settle_80 ?_
          exact st_return rfl dX1_settle_83 (mQv.ret (q1 h1 h2 h3 h4))
        · have h4 : ¬ (mem 50 9) = (-1) := by omega
          refine st_iload_n (i := 3) rfl rfl dX1_settle_53 ?_
          refine sr_if_ne 73 ⟨by decide, by decide⟩ (by decide) dX1_settle_54 (fun h => ?_) (fun h => ?_)
          · exact absurd h (by decide)
          refine st_iload_n (i := 1) rfl rfl dX1_settle_57 ?_
          refine st_aload_n (i := 0) rfl (t := 0) rfl (by decide) dX1_settle_58 ?_
          refine so_getI (v := (mem 50 9)) 50 9 fr_X1_43_1 rfl sh_50 rfl dX1_settle_59 (fun r4 => ?_)
          refine sr_icmp_ne 83 s1 r4 (by decide) dX1_settle_62 (fun h5 => ?_) (fun h5 => ?_)
          · have h5 : ¬ x1 = (mem 50 9) := by omega
            exact st_return rfl dX1_settle_83 (mQv.ret (q2 h1 h2 h3 h4 h5))
          · have h5 : x1 = (mem 50 9) := by omega
            refine st_iload_n (i := 2) rfl rfl dX1_settle_65 ?_
            refine st_aload_n (i := 0) rfl (t := 0) rfl (by decide) dX1_settle_66 ?_
            refine so_getI (v := (mem 50 10)) 50 10 fr_X1_46_1 rfl sh_50 rfl dX1_settle_67 (fun r5 => ?_)
            refine sr_icmp_ge 83 (s3 h1 h2 h3 h4 h5) r5 (by decide) dX1_settle_70 (fun h6 => ?_) (fun h6 => ?_)
            · have h6 : (mem 50 10) ≤ x2 := by omega
              exact st_return rfl dX1_settle_83 (mQv.ret (q3 h1 h2 h3 h4 h5 h6))
            · have h6 : x2 < (mem 50 10) := by omega
              refine st_aload_n (i := 0) rfl (t := 0) rfl (by decide) dX1_settle_73 ?_
              refine st_iload_n (i := 1) rfl rfl dX1_settle_74 ?_
              refine so_putI 50 9 fr_X1_43_1 pf_1_9 fo_50_9 rfl sh_50 s1 dX1_settle_75 ?_
              refine st_aload_n (i := 0) rfl (t := 0) rfl (by decide) dX1_settle_78 ?_
              refine st_iload_n (i := 2) rfl rfl dX1_settle_79 ?_
              refine so_putI 50 10 fr_X1_46_1 pf_1_10 fo_50_10 rfl sh_50 (s3 h1 h2 h3 h4 h5) dX1_settle_80 ?_
              exact st_return rfl dX1_settle_83 (mQv.ret (q4 h1 h2 h3 h4 h5 h6))
      · have h3 : x1 < (mem 50 9) := by omega
        refine st_iconst dX1_settle_39 ?_
        refine st_goto 44 (by decide) dX1_settle_40 ?_
        refine st_istore_n (i := 3) rfl (by decide) (lc' := [(2, 50), (0, x1), (0, x2), (0, 1)]) rfl dX1_settle_44 ?_
        refine st_aload_n (i := 0) rfl (t := 0) rfl (by decide) dX1_settle_45 ?_
        refine so_getI (v := (mem 50 9)) 50 9 fr_X1_43_1 rfl sh_50 rfl dX1_settle_46 (fun r6 => ?_)
        refine st_iconst dX1_settle_49 ?_
        refine sr_icmp_eq 73 r6 ⟨by decide, by decide⟩ (by decide) dX1_settle_50 (fun h7 => ?_) (fun h7 => ?_)
        · have h7 : (mem 50 9) = (-1) := by omega
          refine st_aload_n (i := 0) rfl (t := 0) rfl (by decide) dX1_settle_73 ?_
          refine st_iload_n (i := 1) rfl rfl dX1_settle_74 ?_
          refine so_putI 50 9 fr_X1_43_1 pf_1_9 fo_50_9 rfl sh_50 s1 dX1_settle_75 ?_
          refine st_aload_n (i := 0) rfl (t := 0) rfl (by decide) dX1_settle_78 ?_
          refine st_iload_n (i := 2) rfl rfl dX1_settle_79 ?_
          refine so_putI 50 10 fr_X1_46_1 pf_1_10 fo_50_10 rfl sh_50 (s4 h1 h2 h3 h7) dX1_settle_80 ?_
          exact st_return rfl dX1_settle_83 (mQv.ret (q5 h1 h2 h3 h7))
        · have h7 : ¬ (mem 50 9) = (-1) := by omega
          refine st_iload_n (i := 3) rfl rfl dX1_settle_53 ?_
          refine sr_if_ne 73 ⟨by decide, by decide⟩ (by decide) dX1_settle_54 (fun h => ?_) (fun h => ?_)
          rotate_left
          · exact absurd h (by decide)
          refine st_aload_n (i := 0) rfl (t := 0) rfl (by decide) dX1_settle_73 ?_
          refine st_iload_n (i := 1) rfl rfl dX1_settle_74 ?_
          refine so_putI 50 9 fr_X1_43_1 pf_1_9 fo_50_9 rfl sh_50 s1 dX1_settle_75 ?_
          refine st_aload_n (i := 0) rfl (t := 0) rfl (by decide) dX1_settle_78 ?_
          refine st_iload_n (i := 2) rfl rfl dX1_settle_79 ?_
          refine so_putI 50 10 fr_X1_46_1 pf_1_10 fo_50_10 rfl sh_50 (s5 h1 h2 h3 h7) dX1_settle_80 ?_
          exact st_return rfl dX1_settle_83 (mQv.ret (q6 h1 h2 h3 h7))
    · have h2 : ¬ (mem 50 8) = 0 := by omega
      refine st_iload_n (i := 1) rfl rfl dX1_settle_15 ?_
      refine st_aload_n (i := 0) rfl (t := 0) rfl (by decide) dX1_settle_16 ?_
      refine so_getI (v := (mem 50 9)) 50 9 fr_X1_43_1 rfl sh_50 rfl dX1_settle_17 (fun r7 => ?_)
      refine sr_icmp_le 27 s1 r7 (by decide) dX1_settle_20 (fun h8 => ?_) (fun h8 => ?_)
      · have h8 : x1 ≤ (mem 50 9) := by omega
        refine st_iconst dX1_settle_27 ?_
        refine st_goto 44 (by decide) dX1_settle_28 ?_
        refine st_istore_n (i := 3) rfl (by decide) (lc' := [(2, 50), (0, x1), (0, x2), (0, 0)]) rfl dX1_settle_44 ?_
        refine st_aload_n (i := 0) rfl (t := 0) rfl (by decide) dX1_settle_45 ?_
        refine so_getI (v := (mem 50 9)) 50 9 fr_X1_43_1 rfl sh_50 rfl dX1_settle_46 (fun r8 => ?_)
        refine st_iconst dX1_settle_49 ?_
        refine sr_icmp_eq 73 r8 ⟨by decide, by decide⟩ (by decide) dX1_settle_50 (fun h9 => ?_) (fun h9 => ?_)
        · have h9 : (mem 50 9) = (-1) := by omega
          refine st_aload_n (i := 0) rfl (t := 0) rfl (by decide) dX1_settle_73 ?_
          refine st_iload_n (i := 1) rfl rfl dX1_settle_74 ?_
          refine so_putI 50 9 fr_X1_43_1 pf_1_9 fo_50_9 rfl sh_50 s1 dX1_settle_75 ?_
          refine st_aload_n (i := 0) rfl (t := 0) rfl (by decide) dX1_settle_78 ?_
          refine st_iload_n (i := 2) rfl rfl dX1_settle_79 ?_
          refine so_putI 50 10 fr_X1_46_1 pf_1_10 fo_50_10 rfl sh_50 (s6 h1 h2 h8 h9) dX1_settle_80 ?_
          exact st_return rfl dX1_settle_83 (mQv.ret (q7 h1 h2 h8 h9))
        · have h9 : ¬ (mem 50 9) = (-1) := by omega
          refine st_iload_n (i := 3) rfl rfl dX1_settle_53 ?_
          refine sr_if_ne 73 ⟨by decide, by decide⟩ (by decide) dX1_settle_54 (fun h => ?_) (fun h => ?_)
          · exact absurd h (by decide)
          refine st_iload_n (i := 1) rfl rfl dX1_settle_57 ?_
          refine st_aload_n (i := 0) rfl (t := 0) rfl (by decide) dX1_settle_58 ?_
          refine so_getI (v := (mem 50 9)) 50 9 fr_X1_43_1 rfl sh_50 rfl dX1_settle_59 (fun r9 => ?_)
          refine sr_icmp_ne 83 s1 r9 (by decide) dX1_settle_62 (fun h10 => ?_) (fun h10 => ?_)
          · have h10 : ¬ x1 = (mem 50 9) := by omega
            exact st_return rfl dX1_settle_83 (mQv.ret (q8 h1 h2 h8 h9 h10))
          · have h10 : x1 = (mem 50 9) := by omega
            refine st_iload_n (i := 2) rfl rfl dX1_settle_65 ?_
            refine st_aload_n (i := 0) rfl (t := 0) rfl (by decide) dX1_settle_66 ?_
            refine so_getI (v := (mem 50 10)) 50 10 fr_X1_46_1 rfl sh_50 rfl dX1_settle_67 (fun r10 => ?_)
            refine sr_icmp_ge 83 (s7 h1 h2 h8 h9 h10) r10 (by decide) dX1_settle_70 (fun h11 => ?_) (fun h11 => ?_)
            · have h11 : (mem 50 10) ≤ x2 := by omega
              exact st_return rfl dX1_settle_83 (mQv.ret (q9 h1 h2 h8 h9 h10 h11))
            · have h11 : x2 < (mem 50 10) := by omega
              refine st_aload_n (i := 0) rfl (t := 0) rfl (by decide) dX1_settle_73 ?_
              refine st_iload_n (i := 1) rfl rfl dX1_settle_74 ?_
              refine so_putI 50 9 fr_X1_43_1 pf_1_9 fo_50_9 rfl sh_50 s1 dX1_settle_75 ?_
              refine st_aload_n (i := 0) rfl (t := 0) rfl (by decide) dX1_settle_78 ?_
              refine st_iload_n (i := 2) rfl rfl dX1_settle_79 ?_
              refine so_putI 50 10 fr_X1_46_1 pf_1_10 fo_50_10 rfl sh_50 (s7 h1 h2 h8 h9 h10) dX1_settle_80 ?_
              exact st_return rfl dX1_settle_83 (mQv.ret (q10 h1 h2 h8 h9 h10 h11))
      · have h8 : (mem 50 9) < x1 := by omega
        refine st_iconst dX1_settle_23 ?_
        refine st_goto 44 (by decide) dX1_settle_24 ?_
        refine st_istore_n (i := 3) rfl (by decide) (lc' := [(2, 50), (0, x1), (0, x2), (0, 1)]) rfl dX1_settle_44 ?_
        refine st_aload_n (i := 0) rfl (t := 0) rfl (by decide) dX1_settle_45 ?_
        refine so_getI (v := (mem 50 9)) 50 9 fr_X1_43_1 rfl sh_50 rfl dX1_settle_46 (fun r11 => ?_)
        refine st_iconst dX1_settle_49 ?_
        refine sr_icmp_eq 73 r11 ⟨by decide, by decide⟩ (by decide) dX1_settle_50 (fun h12 => ?_) (fun h12 => ?_)
        · have h12 : (mem 50 9) = (-1) := by omega
          refine st_aload_n (i := 0) rfl (t := 0) rfl (by decide) dX1_settle_73 ?_
          refine st_iload_n (i := 1) rfl rfl dX1_settle_74 ?_
          refine so_putI 50 9 fr_X1_43_1 pf_1_9 fo_50_9 rfl sh_50 s1 dX1_settle_75 ?_
          refine st_aload_n (i := 0) rfl (t := 0) rfl (by decide) dX1_settle_78 ?_
          refine st_iload_n (i := 2) rfl rfl dX1_settle_79 ?_
          refine so_putI 50 10 fr_X1_46_1 pf_1_10 fo_50_10 rfl sh_50 (s8 h1 h2 h8 h12) dX1_settle_80 ?_
          exact st_return rfl dX1_settle_83 (mQv.ret (q11 h1 h2 h8 h12))
        · have h12 : ¬ (mem 50 9) = (-1) := by omega
          refine st_iload_n (i := 3) rfl rfl dX1_settle_53 ?_
          refine sr_if_ne 73 ⟨by decide, by decide⟩ (by decide) dX1_settle_54 (fun h => ?_) (fun h => ?_)
          rotate_left
          · exact absurd h (by decide)
          refine st_aload_n (i := 0) rfl (t := 0) rfl (by decide) dX1_settle_73 ?_
          refine st_iload_n (i := 1) rfl rfl dX1_settle_74 ?_
          refine so_putI 50 9 fr_X1_43_1 pf_1_9 fo_50_9 rfl sh_50 s1 dX1_settle_75 ?_
          refine st_aload_n (i := 0) rfl (t := 0) rfl (by decide) dX1_settle_78 ?_
          refine st_iload_n (i := 2) rfl rfl dX1_settle_79 ?_
          refine so_putI 50 10 fr_X1_46_1 pf_1_10 fo_50_10 rfl sh_50 (s9 h1 h2 h8 h12) dX1_settle_80 ?_
          exact st_return rfl dX1_settle_83 (mQv.ret (q12 h1 h2 h8 h12))
  · have h1 : 200 < x1 := by omega
    exact st_return rfl dX1_settle_7 (mQv.ret (q13 h1))
theorem cn_X1_explore {d : Nat} {P : mmM → Prop} {mem : mmM} {x1 x2 x3 x4 x5 : Int} (h : mmT bX1_explore d 0 0 (mQv P) 0 [(2, 50), (0, x1), (0, x2), (0, x3), (0, x4), (0, x5), (9, 0), (9, 0), (9, 0)] [] mS mem) : conv bX1_explore d [(2, 50), (0, x1), (0, x2), (0, x3), (0, x4), (0, x5)] mem P := mmC_of [(2, 50), (0, x1), (0, x2), (0, x3), (0, x4), (0, x5), (9, 0), (9, 0), (9, 0)] ok_X1_explore.2.2.2.2 rfl (Nat.le_of_ble_eq_true rfl) h
theorem bk_X1_explore_0 {d : Nat} {d1 : Nat} {P1 : mmM → Prop} {P : mmM → Prop} {mem : mmM} {x1 x2 x3 x4 x5 : Int}
  (c1 : x5 = 0 → conv bX1_settle d1 [(2, 50), (0, ((x2 + (mem 23 1)) - x1)), (0, x4)] mem P1)
  (k1 : ¬ x5 = 0 → mmT bX1_explore d 0 0 (mQv P) 29 [(2, 50), (0, x1), (0, x2), (9, 0), (0, x4), (0, x5), (0, x3), (0, x1), (9, 0)] [] mS mem)
  (q1 : x5 = 0 → ∀ (m1 : mmM), P1 m1 → P m1)
  (hd_d1 : d1 + 1 ≤ d := by omega)
  (s1 : R32 x5 := by intros; first | omega | assumption | solve_by_elim)
  : mmT bX1_explore d 0 0 (mQv P) 0 [(2, 50), (0, x1), (0, x2), (0, x3), (0, x4), (0, x5), (9, 0), (9, 0), (9, 0)] [] mS mem := by
  refine st_iload rfl dX1_explore_0 ?_
  refine sr_if_ne 23 s1 (by decide) dX1_explore_2 (fun h1 => ?_) (fun h1 => ?_)
  · have h1 : ¬ x5 = 0 := by omega
    refine st_iload_n (i := 3) rfl rfl dX1_explore_23 ?_
    refine st_istore (by decide) (lc' := [(2, 50), (0, x1), (0, x2), (0, x3), (0, x4), (0, x5), (0, x3), (9, 0), (9, 0)]) rfl dX1_explore_24 ?_
    refine st_iload_n (i := 1) rfl rfl dX1_explore_26 ?_
    refine st_istore (by decide) (lc' := [(2, 50), (0, x1), (0, x2), (0, x3), (0, x4), (0, x5), (0, x3), (0, x1), (9, 0)]) rfl dX1_explore_27 ?_
    exact st_locals [(2, 50), (0, x1), (0, x2), (9, 0), (0, x4), (0, x5), (0, x3), (0, x1), (9, 0)] ⟨Or.inr rfl, Or.inr rfl, Or.inr rfl, Or.inl rfl, Or.inr rfl, Or.inr rfl, Or.inr rfl, Or.inr rfl, Or.inl rfl, trivial⟩ (k1 h1)
  · have h1 : x5 = 0 := by omega
    refine st_aload_n (i := 0) rfl (t := 0) rfl (by decide) dX1_explore_5 ?_
    refine st_iload_n (i := 2) rfl rfl dX1_explore_6 ?_
    refine st_aload_n (i := 0) rfl (t := 0) rfl (by decide) dX1_explore_7 ?_
    refine so_getA 50 0 fr_X1_19_1 rfl sh_50 fx_50_0 dX1_explore_8 ?_
    refine so_getI (v := (mem 23 1)) 23 1 fr_X1_53_8 rfl sh_23 rfl dX1_explore_11 (fun r1 => ?_)
    refine st_iadd dX1_explore_14 ?_
    refine st_iload_n (i := 1) rfl rfl dX1_explore_15 ?_
    refine st_isub dX1_explore_16 ?_
    refine st_iload rfl dX1_explore_17 ?_
    refine st_callV (kc2 := 0) (ks2 := 0) (av := [(0, ((x2 + (mem 23 1)) - x1)), (0, x4)]) 50 1 mr_X1_56 ok_X1_settle (c1 h1) rfl sh_50 ⟨_, rfl, rfl, by decide⟩ rfl rfl hd_d1 (Nat.le_refl 0) (Nat.le_refl 0) (Nat.le_of_ble_eq_true rfl) dX1_explore_19 (mQv.elim fun m1 p1 => ?_)
    exact st_return rfl dX1_explore_22 (mQv.ret (q1 h1 m1 p1))
theorem bk_X1_explore_29 {d : Nat} {d1 : Nat} {P1 : mmM → Prop} {d2 : Nat} {P2 : mmM → Prop} {P : mmM → Prop} {mem : mmM} {x1 x2 x4 x5 x6 x7 : Int}
  (c1 : (mem 23 1) ≤ x7 → conv bX1_settle d1 [(2, 50), (0, ((x2 + (mem 23 1)) - x1)), (0, x4)] mem P1)
  (c2 : x7 < (mem 23 1) → (and32 x6 (shl32 1 x7)) = 0 → ¬ (mem 38 x7) = (-1) → conv bX1_explore d2 [(2, 50), (0, ((mem 38 x7) + 1)), (0, (((x2 + x7) - x1) + 1)), (0, (or32 x6 (shl32 1 x7))), (0, (or32 x4 (shl32 1 x7))), (0, (x5 - 1))] mem P2)
  (k1 : x7 < (mem 23 1) → ¬ (and32 x6 (shl32 1 x7)) = 0 → mmT bX1_explore d 0 0 (mQv P) 29 [(2, 50), (0, x1), (0, x2), (9, 0), (0, x4), (0, x5), (0, (or32 x6 (shl32 1 x7))), (0, (x7 + 1)), (9, 0)] [] mS mem)
  (k2 : x7 < (mem 23 1) → (and32 x6 (shl32 1 x7)) = 0 → (mem 38 x7) = (-1) → mmT bX1_explore d 0 0 (mQv P) 29 [(2, 50), (0, x1), (0, x2), (9, 0), (0, x4), (0, x5), (0, (or32 x6 (shl32 1 x7))), (0, (x7 + 1)), (9, 0)] [] mS mem)
  (k3 : x7 < (mem 23 1) → (and32 x6 (shl32 1 x7)) = 0 → ¬ (mem 38 x7) = (-1) → ∀ (m2 : mmM), P2 m2 → mmT bX1_explore d 0 0 (mQv P) 29 [(2, 50), (0, x1), (0, x2), (9, 0), (0, x4), (0, x5), (0, (or32 x6 (shl32 1 x7))), (0, (x7 + 1)), (9, 0)] [] mS m2)
  (q1 : (mem 23 1) ≤ x7 → ∀ (m1 : mmM), P1 m1 → P m1)
  (hd_d1 : d1 + 1 ≤ d := by omega)
  (hd_d2 : d2 + 1 ≤ d := by omega)
  (s1 : R32 x7 := by intros; first | omega | assumption | solve_by_elim)
  (s2 : x7 < (mem 23 1) → (and32 x6 (shl32 1 x7)) = 0 → 0 ≤ x7 ∧ x7 < 24 := by intros; first | omega | assumption | solve_by_elim)
  : mmT bX1_explore d 0 0 (mQv P) 29 [(2, 50), (0, x1), (0, x2), (9, 0), (0, x4), (0, x5), (0, x6), (0, x7), (9, 0)] [] mS mem := by
  refine st_iload rfl dX1_explore_29 ?_
  refine st_aload_n (i := 0) rfl (t := 0) rfl (by decide) dX1_explore_31 ?_
  refine so_getA 50 0 fr_X1_19_1 rfl sh_50 fx_50_0 dX1_explore_32 ?_
  refine so_getI (v := (mem 23 1)) 23 1 fr_X1_53_8 rfl sh_23 rfl dX1_explore_35 (fun r1 => ?_)
  refine sr_icmp_ge 120 s1 r1 (by decide) dX1_explore_38 (fun h1 => ?_) (fun h1 => ?_)
  · have h1 : (mem 23 1) ≤ x7 := by omega
    refine st_aload_n (i := 0) rfl (t := 0) rfl (by decide) dX1_explore_120 ?_
    refine st_iload_n (i := 2) rfl rfl dX1_explore_121 ?_
    refine st_aload_n (i := 0) rfl (t := 0) rfl (by decide) dX1_explore_122 ?_
    refine so_getA 50 0 fr_X1_19_1 rfl sh_50 fx_50_0 dX1_explore_123 ?_
    refine so_getI (v := (mem 23 1)) 23 1 fr_X1_53_8 rfl sh_23 rfl dX1_explore_126 (fun r2 => ?_)
    refine st_iadd dX1_explore_129 ?_
    refine st_iload_n (i := 1) rfl rfl dX1_explore_130 ?_
    refine st_isub dX1_explore_131 ?_
    refine st_iload rfl dX1_explore_132 ?_
    refine st_callV (kc2 := 0) (ks2 := 0) (av := [(0, ((x2 + (mem 23 1)) - x1)), (0, x4)]) 50 1 mr_X1_56 ok_X1_settle (c1 h1) rfl sh_50 ⟨_, rfl, rfl, by decide⟩ rfl rfl hd_d1 (Nat.le_refl 0) (Nat.le_refl 0) (Nat.le_of_ble_eq_true rfl) dX1_explore_134 (mQv.elim fun m1 p1 => ?_)
    exact st_return rfl dX1_explore_137 (mQv.ret (q1 h1 m1 p1))
  · have h1 : x7 < (mem 23 1) := by omega
    refine st_iconst dX1_explore_41 ?_
    refine st_iload rfl dX1_explore_42 ?_
    refine st_ishl dX1_explore_44 ?_
    refine st_istore (by decide) (lc' := [(2, 50), (0, x1), (0, x2), (9, 0), (0, x4), (0, x5), (0, x6), (0, x7), (0, (shl32 1 x7))]) rfl dX1_explore_45 ?_
    refine st_iload rfl dX1_explore_47 ?_
    refine st_iload rfl dX1_explore_49 ?_
    refine st_iand dX1_explore_51 ?_
    refine sr_if_ne 107 (and32_rng x6 (shl32 1 x7)) (by decide) dX1_explore_52 (fun h2 => ?_) (fun h2 => ?_)
    · have h2 : ¬ (and32 x6 (shl32 1 x7)) = 0 := by omega
      refine st_iload rfl dX1_explore_107 ?_
      refine st_iload rfl dX1_explore_109 ?_
      refine st_ior dX1_explore_111 ?_
      refine st_istore (by decide) (lc' := [(2, 50), (0, x1), (0, x2), (9, 0), (0, x4), (0, x5), (0, (or32 x6 (shl32 1 x7))), (0, x7), (0, (shl32 1 x7))]) rfl dX1_explore_112 ?_
      refine st_iinc (y := (x7 + 1)) (by decide) (i := 7) rfl rfl (lc' := [(2, 50), (0, x1), (0, x2), (9, 0), (0, x4), (0, x5), (0, (or32 x6 (shl32 1 x7))), (0, (x7 + 1)), (0, (shl32 1 x7))]) rfl dX1_explore_114 ?_
      refine st_goto 29 (by decide) dX1_explore_117 ?_
      exact st_locals [(2, 50), (0, x1), (0, x2), (9, 0), (0, x4), (0, x5), (0, (or32 x6 (shl32 1 x7))), (0, (x7 + 1)), (9, 0)] ⟨Or.inr rfl, Or.inr rfl, Or.inr rfl, Or.inl rfl, Or.inr rfl, Or.inr rfl, Or.inr rfl, Or.inr rfl, Or.inl rfl, trivial⟩ (k1 h1 h2)
    · have h2 : (and32 x6 (shl32 1 x7)) = 0 := by omega
      refine st_aload_n (i := 0) rfl (t := 0) rfl (by decide) dX1_explore_55 ?_
      refine so_getA 50 1 fr_X1_29_1 rfl sh_50 fx_50_1 dX1_explore_56 ?_
      refine so_getA 35 3 fr_X1_33_4 rfl sh_35 fx_35_3 dX1_explore_59 ?_
      refine st_iload rfl dX1_explore_62 ?_
      refine so_iald (v := (mem 38 x7)) 38 rfl sh_38 (by decide) (s2 h1 h2) rfl dX1_explore_64 (fun r3 => ?_)
      refine st_iconst dX1_explore_65 ?_
      refine sr_icmp_eq 107 r3 ⟨by decide, by decide⟩ (by decide) dX1_explore_66 (fun h3 => ?_) (fun h3 => ?_)
      · have h3 : (mem 38 x7) = (-1) := by omega
        refine st_iload rfl dX1_explore_107 ?_
        refine st_iload rfl dX1_explore_109 ?_
        refine st_ior dX1_explore_111 ?_
        refine st_istore (by decide) (lc' := [(2, 50), (0, x1), (0, x2), (9, 0), (0, x4), (0, x5), (0, (or32 x6 (shl32 1 x7))), (0, x7), (0, (shl32 1 x7))]) rfl dX1_explore_112 ?_
        refine st_iinc (y := (x7 + 1)) (by decide) (i := 7) rfl rfl (lc' := [(2, 50), (0, x1), (0, x2), (9, 0), (0, x4), (0, x5), (0, (or32 x6 (shl32 1 x7))), (0, (x7 + 1)), (0, (shl32 1 x7))]) rfl dX1_explore_114 ?_
        refine st_goto 29 (by decide) dX1_explore_117 ?_
        exact st_locals [(2, 50), (0, x1), (0, x2), (9, 0), (0, x4), (0, x5), (0, (or32 x6 (shl32 1 x7))), (0, (x7 + 1)), (9, 0)] ⟨Or.inr rfl, Or.inr rfl, Or.inr rfl, Or.inl rfl, Or.inr rfl, Or.inr rfl, Or.inr rfl, Or.inr rfl, Or.inl rfl, trivial⟩ (k2 h1 h2 h3)
      · have h3 : ¬ (mem 38 x7) = (-1) := by omega
        refine st_aload_n (i := 0) rfl (t := 0) rfl (by decide) dX1_explore_69 ?_
        refine st_aload_n (i := 0) rfl (t := 0) rfl (by decide) dX1_explore_70 ?_
        refine so_getA 50 1 fr_X1_29_1 rfl sh_50 fx_50_1 dX1_explore_71 ?_
        refine so_getA 35 3 fr_X1_33_4 rfl sh_35 fx_35_3 dX1_explore_74 ?_
        refine st_iload rfl dX1_explore_77 ?_
        refine so_iald (v := (mem 38 x7)) 38 rfl sh_38 (by decide) (s2 h1 h2) rfl dX1_explore_79 (fun r4 => ?_)
        refine st_iconst dX1_explore_80 ?_
        refine st_iadd dX1_explore_81 ?_
        refine st_iload_n (i := 2) rfl rfl dX1_explore_82 ?_
        refine st_iload rfl dX1_explore_83 ?_
        refine st_iadd dX1_explore_85 ?_
        refine st_iload_n (i := 1) rfl rfl dX1_explore_86 ?_
        refine st_isub dX1_explore_87 ?_
        refine st_iconst dX1_explore_88 ?_
        refine st_iadd dX1_explore_89 ?_
        refine st_iload rfl dX1_explore_90 ?_
        refine st_iload rfl dX1_explore_92 ?_
        refine st_ior dX1_explore_94 ?_
        refine st_iload rfl dX1_explore_95 ?_
        refine st_iload rfl dX1_explore_97 ?_
        refine st_ior dX1_explore_99 ?_
        refine st_iload rfl dX1_explore_100 ?_
        refine st_iconst dX1_explore_102 ?_
        refine st_isub dX1_explore_103 ?_
        refine st_callV (kc2 := 0) (ks2 := 0) (av := [(0, ((mem 38 x7) + 1)), (0, (((x2 + x7) - x1) + 1)), (0, (or32 x6 (shl32 1 x7))), (0, (or32 x4 (shl32 1 x7))), (0, (x5 - 1))]) 50 1 mr_X1_49 ok_X1_explore (c2 h1 h2 h3) rfl sh_50 ⟨_, rfl, rfl, by decide⟩ rfl rfl hd_d2 (Nat.le_refl 0) (Nat.le_refl 0) (Nat.le_of_ble_eq_true rfl) dX1_explore_104 (mQv.elim fun m2 p2 => ?_)
        refine st_iload rfl dX1_explore_107 ?_
        refine st_iload rfl dX1_explore_109 ?_
        refine st_ior dX1_explore_111 ?_
        refine st_istore (by decide) (lc' := [(2, 50), (0, x1), (0, x2), (9, 0), (0, x4), (0, x5), (0, (or32 x6 (shl32 1 x7))), (0, x7), (0, (shl32 1 x7))]) rfl dX1_explore_112 ?_
        refine st_iinc (y := (x7 + 1)) (by decide) (i := 7) rfl rfl (lc' := [(2, 50), (0, x1), (0, x2), (9, 0), (0, x4), (0, x5), (0, (or32 x6 (shl32 1 x7))), (0, (x7 + 1)), (0, (shl32 1 x7))]) rfl dX1_explore_114 ?_
        refine st_goto 29 (by decide) dX1_explore_117 ?_
        exact st_locals [(2, 50), (0, x1), (0, x2), (9, 0), (0, x4), (0, x5), (0, (or32 x6 (shl32 1 x7))), (0, (x7 + 1)), (9, 0)] ⟨Or.inr rfl, Or.inr rfl, Or.inr rfl, Or.inl rfl, Or.inr rfl, Or.inr rfl, Or.inr rfl, Or.inr rfl, Or.inl rfl, trivial⟩ (k3 h1 h2 h3 m2 p2)
theorem cn_X1_search {d : Nat} {P : mmM → Prop} {mem : mmM} {x1 x2 : Int} (h : mmT bX1_search d 0 0 (mQv P) 0 [(2, 50), (0, x1), (0, x2)] [] mS mem) : conv bX1_search d [(2, 50), (0, x1), (0, x2)] mem P := mmC_of [(2, 50), (0, x1), (0, x2)] ok_X1_search.2.2.2.2 rfl (Nat.le_of_ble_eq_true rfl) h
theorem bk_X1_search_0 {d : Nat} {d1 : Nat} {P1 : mmM → Prop} {P : mmM → Prop} {mem : mmM} {x1 x2 : Int}
  (c1 : conv bX1_explore d1 [(2, 50), (0, 0), (0, 0), (0, 0), (0, 0), (0, x1)] (mset (mset (mset mem 50 8 x2) 50 9 (-1)) 50 10 (-1)) P1)
  (q1 : ∀ (m1 : mmM), P1 m1 → P m1)
  (hd_d1 : d1 + 1 ≤ d := by omega)
  (s1 : x2 = 0 ∨ x2 = 1 := by intros; first | omega | assumption | solve_by_elim)
  : mmT bX1_search d 0 0 (mQv P) 0 [(2, 50), (0, x1), (0, x2)] [] mS mem := by
  refine st_aload_n (i := 0) rfl (t := 0) rfl (by decide) dX1_search_0 ?_
  refine st_iload_n (i := 2) rfl rfl dX1_search_1 ?_
  refine so_putZ 50 8 fr_X1_39_1 pf_1_8 fo_50_8 rfl sh_50 s1 dX1_search_2 ?_
  refine st_aload_n (i := 0) rfl (t := 0) rfl (by decide) dX1_search_5 ?_
  refine st_iconst dX1_search_6 ?_
  refine so_putI 50 9 fr_X1_43_1 pf_1_9 fo_50_9 rfl sh_50 ⟨by decide, by decide⟩ dX1_search_7 ?_
  refine st_aload_n (i := 0) rfl (t := 0) rfl (by decide) dX1_search_10 ?_
  refine st_iconst dX1_search_11 ?_
  refine so_putI 50 10 fr_X1_46_1 pf_1_10 fo_50_10 rfl sh_50 ⟨by decide, by decide⟩ dX1_search_12 ?_
  refine st_aload_n (i := 0) rfl (t := 0) rfl (by decide) dX1_search_15 ?_
  refine st_iconst dX1_search_16 ?_
  refine st_iconst dX1_search_17 ?_
  refine st_iconst dX1_search_18 ?_
  refine st_iconst dX1_search_19 ?_
  refine st_iload_n (i := 1) rfl rfl dX1_search_20 ?_
  refine st_callV (kc2 := 0) (ks2 := 0) (av := [(0, 0), (0, 0), (0, 0), (0, 0), (0, x1)]) 50 1 mr_X1_49 ok_X1_explore c1 rfl sh_50 ⟨_, rfl, rfl, by decide⟩ rfl rfl hd_d1 (Nat.le_refl 0) (Nat.le_refl 0) (Nat.le_of_ble_eq_true rfl) dX1_search_21 (mQv.elim fun m1 p1 => ?_)
  exact st_return rfl dX1_search_24 (mQv.ret (q1 m1 p1))
theorem cn_X11_extreme {d : Nat} {P : Int → mmM → Prop} {mem : mmM} {x1 x2 x3 : Int} (h : mmT bX11_extreme d 0 0 (mQ 0 P) 0 [(2, 0), (0, x1), (0, x2), (0, x3)] [] mS mem) : con 0 bX11_extreme d [(2, 0), (0, x1), (0, x2), (0, x3)] mem P := mmC_of [(2, 0), (0, x1), (0, x2), (0, x3)] ok_X11_extreme.2.2.2.2 rfl (Nat.le_of_ble_eq_true rfl) h
theorem bk_X11_extreme_0 {d : Nat} {d1 : Nat} {P1 : mmM → Prop} {P : Int → mmM → Prop} {mem : mmM} {x1 x2 x3 : Int}
  (c1 : ¬ (mem 23 1) = 0 → 0 ≤ x1 → x1 ≤ 4 → 0 ≤ x2 → x2 ≤ 1 → conv bX1_search d1 [(2, 50), (0, x1), (0, x3)] mem P1)
  (q1 : (mem 23 1) = 0 → P (-1) mem)
  (q2 : ¬ (mem 23 1) = 0 → x1 < 0 → P (-1) mem)
  (q3 : ¬ (mem 23 1) = 0 → 0 ≤ x1 → 4 < x1 → P (-1) mem)
  (q4 : ¬ (mem 23 1) = 0 → 0 ≤ x1 → x1 ≤ 4 → x2 < 0 → P (-1) mem)
  (q5 : ¬ (mem 23 1) = 0 → 0 ≤ x1 → x1 ≤ 4 → 0 ≤ x2 → x2 ≤ 1 → ∀ (m1 : mmM), P1 m1 → ¬ x2 = 0 → P (m1 50 10) m1)
  (q6 : ¬ (mem 23 1) = 0 → 0 ≤ x1 → x1 ≤ 4 → 0 ≤ x2 → x2 ≤ 1 → ∀ (m1 : mmM), P1 m1 → x2 = 0 → P (m1 50 9) m1)
  (q7 : ¬ (mem 23 1) = 0 → 0 ≤ x1 → x1 ≤ 4 → 0 ≤ x2 → 1 < x2 → P (-1) mem)
  (hd_d1 : d1 + 1 ≤ d := by omega)
  (s1 : ¬ (mem 23 1) = 0 → R32 x1 := by intros; first | omega | assumption | solve_by_elim)
  (s2 : ¬ (mem 23 1) = 0 → 0 ≤ x1 → x1 ≤ 4 → R32 x2 := by intros; first | omega | assumption | solve_by_elim)
  : mmT bX11_extreme d 0 0 (mQ 0 P) 0 [(2, 0), (0, x1), (0, x2), (0, x3)] [] mS mem := by
  refine st_aload_n (i := 0) rfl (t := 0) rfl (by decide) dX11_extreme_0 ?_
  refine so_getA 0 4 fr_X11_42_10 rfl sh_0 fx_0_4 dX11_extreme_1 ?_
  refine so_getI (v := (mem 23 1)) 23 1 fr_X11_135_8 rfl sh_23 rfl dX11_extreme_4 (fun r1 => ?_)
  refine sr_if_eq 28 r1 (by decide) dX11_extreme_7 (fun h1 => ?_) (fun h1 => ?_)
  · have h1 : (mem 23 1) = 0 := by omega
    refine st_iconst dX11_extreme_28 ?_
    exact st_ireturn rfl dX11_extreme_29 (mQ.ret (q1 h1))
  · have h1 : ¬ (mem 23 1) = 0 := by omega
    refine st_iload_n (i := 1) rfl rfl dX11_extreme_10 ?_
    refine sr_if_lt 28 (s1 h1) (by decide) dX11_extreme_11 (fun h2 => ?_) (fun h2 => ?_)
    · have h2 : x1 < 0 := by omega
      refine st_iconst dX11_extreme_28 ?_
      exact st_ireturn rfl dX11_extreme_29 (mQ.ret (q2 h1 h2))
    · have h2 : 0 ≤ x1 := by omega
      refine st_iload_n (i := 1) rfl rfl dX11_extreme_14 ?_
      refine st_iconst dX11_extreme_15 ?_
      refine sr_icmp_gt 28 (s1 h1) ⟨by decide, by decide⟩ (by decide) dX11_extreme_16 (fun h3 => ?_) (fun h3 => ?_)
      · have h3 : 4 < x1 := by omega
        refine st_iconst dX11_extreme_28 ?_
        exact st_ireturn rfl dX11_extreme_29 (mQ.ret (q3 h1 h2 h3))
      · have h3 : x1 ≤ 4 := by omega
        refine st_iload_n (i := 2) rfl rfl dX11_extreme_19 ?_
        refine sr_if_lt 28 (s2 h1 h2 h3) (by decide) dX11_extreme_20 (fun h4 => ?_) (fun h4 => ?_)
        · have h4 : x2 < 0 := by omega
          refine st_iconst dX11_extreme_28 ?_
          exact st_ireturn rfl dX11_extreme_29 (mQ.ret (q4 h1 h2 h3 h4))
        · have h4 : 0 ≤ x2 := by omega
          refine st_iload_n (i := 2) rfl rfl dX11_extreme_23 ?_
          refine st_iconst dX11_extreme_24 ?_
          refine sr_icmp_le 30 (s2 h1 h2 h3) ⟨by decide, by decide⟩ (by decide) dX11_extreme_25 (fun h5 => ?_) (fun h5 => ?_)
          · have h5 : x2 ≤ 1 := by omega
            refine st_aload_n (i := 0) rfl (t := 0) rfl (by decide) dX11_extreme_30 ?_
            refine so_getA 0 7 fr_X11_67_10 rfl sh_0 fx_0_7 dX11_extreme_31 ?_
            refine st_iload_n (i := 1) rfl rfl dX11_extreme_34 ?_
            refine st_iload_n (i := 3) rfl rfl dX11_extreme_35 ?_
            refine st_callV (kc2 := 0) (ks2 := 0) (av := [(0, x1), (0, x3)]) 50 1 mr_X11_312 ok_X1_search (c1 h1 h2 h3 h4 h5) rfl sh_50 ⟨_, rfl, rfl, by decide⟩ rfl rfl hd_d1 (Nat.le_refl 0) (Nat.le_refl 0) (Nat.le_of_ble_eq_true rfl) dX11_extreme_36 (mQv.elim fun m1 p1 => ?_)
            refine st_iload_n (i := 2) rfl rfl dX11_extreme_39 ?_
            refine sr_if_ne 53 (s2 h1 h2 h3) (by decide) dX11_extreme_40 (fun h6 => ?_) (fun h6 => ?_)
            · have h6 : ¬ x2 = 0 := by omega
              refine st_aload_n (i := 0) rfl (t := 0) rfl (by decide) dX11_extreme_53 ?_
              refine so_getA 0 7 fr_X11_67_10 rfl sh_0 fx_0_7 dX11_extreme_54 ?_
              refine so_getI (v := (m1 50 10)) 50 10 fr_X11_319_1 rfl sh_50 rfl dX11_extreme_57 (fun r2 => ?_)
              exact st_ireturn rfl dX11_extreme_60 (mQ.ret (q5 h1 h2 h3 h4 h5 m1 p1 h6))
            · have h6 : x2 = 0 := by omega
              refine st_aload_n (i := 0) rfl (t := 0) rfl (by decide) dX11_extreme_43 ?_
              refine so_getA 0 7 fr_X11_67_10 rfl sh_0 fx_0_7 dX11_extreme_44 ?_
              refine so_getI (v := (m1 50 9)) 50 9 fr_X11_316_1 rfl sh_50 rfl dX11_extreme_47 (fun r3 => ?_)
              refine st_goto 60 (by decide) dX11_extreme_50 ?_
              exact st_ireturn rfl dX11_extreme_60 (mQ.ret (q6 h1 h2 h3 h4 h5 m1 p1 h6))
          · have h5 : 1 < x2 := by omega
            refine st_iconst dX11_extreme_28 ?_
            exact st_ireturn rfl dX11_extreme_29 (mQ.ret (q7 h1 h2 h3 h4 h5))
theorem cn_X11_shortest {d : Nat} {P : Int → mmM → Prop} {mem : mmM} {x1 x2 : Int} (h : mmT bX11_shortest d 0 0 (mQ 0 P) 0 [(2, 0), (0, x1), (0, x2)] [] mS mem) : con 0 bX11_shortest d [(2, 0), (0, x1), (0, x2)] mem P := mmC_of [(2, 0), (0, x1), (0, x2)] ok_X11_shortest.2.2.2.2 rfl (Nat.le_of_ble_eq_true rfl) h
theorem bk_X11_shortest_0 {d : Nat} {d1 : Nat} {P1 : Int → mmM → Prop} {P : Int → mmM → Prop} {mem : mmM} {x1 x2 : Int}
  (c1 : con 0 bX11_extreme d1 [(2, 0), (0, x1), (0, x2), (0, 0)] mem P1)
  (q1 : ∀ (v1 : Int), ∀ (m1 : mmM), P1 v1 m1 → P v1 m1)
  (hd_d1 : d1 + 1 ≤ d := by omega)
  : mmT bX11_shortest d 0 0 (mQ 0 P) 0 [(2, 0), (0, x1), (0, x2)] [] mS mem := by
  refine st_aload_n (i := 0) rfl (t := 0) rfl (by decide) dX11_shortest_0 ?_
  refine st_iload_n (i := 1) rfl rfl dX11_shortest_1 ?_
  refine st_iload_n (i := 2) rfl rfl dX11_shortest_2 ?_
  refine st_iconst dX11_shortest_3 ?_
  refine st_callV (kc2 := 0) (ks2 := 0) (av := [(0, x1), (0, x2), (0, 0)]) 0 10 mr_X11_308 ok_X11_extreme c1 rfl sh_0 ⟨_, rfl, rfl, by decide⟩ rfl rfl hd_d1 (Nat.le_refl 0) (Nat.le_refl 0) (Nat.le_of_ble_eq_true rfl) dX11_shortest_4 (mQ.elim fun v1 m1 p1 => ?_)
  exact st_ireturn rfl dX11_shortest_7 (mQ.ret (q1 v1 m1 p1))
theorem cn_X11_longest {d : Nat} {P : Int → mmM → Prop} {mem : mmM} {x1 x2 : Int} (h : mmT bX11_longest d 0 0 (mQ 0 P) 0 [(2, 0), (0, x1), (0, x2)] [] mS mem) : con 0 bX11_longest d [(2, 0), (0, x1), (0, x2)] mem P := mmC_of [(2, 0), (0, x1), (0, x2)] ok_X11_longest.2.2.2.2 rfl (Nat.le_of_ble_eq_true rfl) h
theorem bk_X11_longest_0 {d : Nat} {d1 : Nat} {P1 : Int → mmM → Prop} {P : Int → mmM → Prop} {mem : mmM} {x1 x2 : Int}
  (c1 : con 0 bX11_extreme d1 [(2, 0), (0, x1), (0, x2), (0, 1)] mem P1)
  (q1 : ∀ (v1 : Int), ∀ (m1 : mmM), P1 v1 m1 → P v1 m1)
  (hd_d1 : d1 + 1 ≤ d := by omega)
  : mmT bX11_longest d 0 0 (mQ 0 P) 0 [(2, 0), (0, x1), (0, x2)] [] mS mem := by
  refine st_aload_n (i := 0) rfl (t := 0) rfl (by decide) dX11_longest_0 ?_
  refine st_iload_n (i := 1) rfl rfl dX11_longest_1 ?_
  refine st_iload_n (i := 2) rfl rfl dX11_longest_2 ?_
  refine st_iconst dX11_longest_3 ?_
  refine st_callV (kc2 := 0) (ks2 := 0) (av := [(0, x1), (0, x2), (0, 1)]) 0 10 mr_X11_308 ok_X11_extreme c1 rfl sh_0 ⟨_, rfl, rfl, by decide⟩ rfl rfl hd_d1 (Nat.le_refl 0) (Nat.le_refl 0) (Nat.le_of_ble_eq_true rfl) dX11_longest_4 (mQ.elim fun v1 m1 p1 => ?_)
  exact st_ireturn rfl dX11_longest_7 (mQ.ret (q1 v1 m1 p1))
theorem c_X1_settle (mem : mmM) (x1 x2 : Int) (h1 : 0 ≤ x1 ∧ x1 ≤ 200) (h2 : R32 x2) : conv bX1_settle 0 [(2, 50), (0, x1), (0, x2)] mem (fun m => exFr mem m ∧ (m 50 9, m 50 10) = stlE (mem 50 8) (mem 50 9, mem 50 10) (x1, x2)) := by
  have fr : exFr mem (mset (mset mem 50 9 x1) 50 10 x2) := ⟨fun a ha => by rw [mset_ne ha, mset_ne ha], fun j j1 j2 => by rw [mset_at, if_neg j2, mset_at, if_neg j1]⟩
  have rd : (mset (mset mem 50 9 x1) 50 10 x2 50 9, mset (mset mem 50 9 x1) 50 10 x2 50 10) = (x1, x2) := by
    rw [mset_same, mset_at, if_neg (by decide), mset_same]
  have yes : (mem 50 9 = -1 ∨ (if mem 50 8 = 0 then x1 < mem 50 9 else mem 50 9 < x1) ∨ (x1 = mem 50 9 ∧ x2 < mem 50 10)) → exFr mem (mset (mset mem 50 9 x1) 50 10 x2) ∧ (mset (mset mem 50 9 x1) 50 10 x2 50 9, mset (mset mem 50 9 x1) 50 10 x2 50 10) = stlE (mem 50 8) (mem 50 9, mem 50 10) (x1, x2) := fun g => ⟨fr, by rw [rd]; unfold stlE; rw [if_pos g]⟩
  have no : ¬ (mem 50 9 = -1 ∨ (if mem 50 8 = 0 then x1 < mem 50 9 else mem 50 9 < x1) ∨ (x1 = mem 50 9 ∧ x2 < mem 50 10)) → exFr mem mem ∧ (mem 50 9, mem 50 10) = stlE (mem 50 8) (mem 50 9, mem 50 10) (x1, x2) := fun g => ⟨⟨fun _ _ => rfl, fun _ _ _ => rfl⟩, by unfold stlE; rw [if_neg g]⟩
  refine cn_X1_settle (bk_X1_settle_0 (fun _ g g2 g3 => yes (Or.inl g3)) (fun _ g g2 g3 g4 => no ?_) (fun _ g g2 g3 g4 g5 => no ?_) (fun _ g g2 g3 g4 g5 => yes (Or.inr (Or.inr ⟨g4, g5⟩))) (fun _ g g2 g3 => yes (Or.inl g3)) (fun _ g g2 g3 => yes (Or.inr (Or.inl (by rw [if_pos g]; exact g2)))) (fun _ g g2 g3 => yes (Or.inl g3)) (fun _ g g2 g3 g4 => no ?_) (fun _ g g2 g3 g4 g5 => no ?_) (fun _ g g2 g3 g4 g5 => yes (Or.inr (Or.inr ⟨g4, g5⟩))) (fun _ g g2 g3 => yes (Or.inl g3)) (fun _ g g2 g3 => yes (Or.inr (Or.inl (by rw [if_neg g]; exact g2)))) (fun g => by omega))
  · rw [if_pos g]; omega
  · rw [if_pos g]; omega
  · rw [if_neg g]; omega
  · rw [if_neg g]; omega
theorem met_step {msf i : Int} (h0 : 0 ≤ msf ∧ msf < 16777216) (i0 : 0 ≤ i ∧ i < 24) : (0 ≤ or32 msf (shl32 1 i) ∧ or32 msf (shl32 1 i) < 16777216) ∧ (∀ j, 0 ≤ j → (tb (or32 msf (shl32 1 i)) j = true ↔ (tb msf j = true ∨ i = j))) ∧ (and32 msf (shl32 1 i) = 0 ↔ tb msf i = false) := by
  have e24 : p2 24 = 16777216 := by decide +kernel
  have s := shl1_eq (k := i) i0.1 (by omega)
  have pl := p2_lt (i := i) (j := 24) i0.1 i0.2
  have pp := p2_pos i
  have o := or32_b (x := msf) (y := p2 i) (b := 24) h0.1 (by omega) (by omega) (by omega) (by decide)
  rw [s]
  refine ⟨by omega, fun j j0 => ?_, ?_⟩
  · rw [o.2, tb_p2 i0.1 j0, Bool.or_eq_true, decide_eq_true_iff]
  · have a := and32_tn (x := msf) (y := p2 i) h0.1 (by omega) (by omega) (by omega)
    have t : ∀ j, 0 ≤ j → tb (and32 msf (p2 i)) j = (tb msf j && decide (i = j)) := by
      intro j j0
      rw [← tb_p2 i0.1 j0, a]
      unfold tb
      rw [Int.toNat_natCast, Nat.testBit_and]
    constructor
    · intro z
      have := t i i0.1
      rw [z, tb_0, decide_eq_true rfl, Bool.and_true] at this
      exact this.symm
    · intro z
      refine tb_ext (by rw [a]; omega) (Int.le_refl 0) (fun j j0 => ?_)
      rw [t j j0, tb_0]
      by_cases q : i = j
      · rw [← q, z]
        rfl
      · rw [decide_eq_false q, Bool.and_false]
theorem c_X1_explore (l : Nat) : ∀ (mem : mmM) (come said met losses : Int), playX mem → (0 ≤ come ∧ come ≤ mem 23 1) → (0 ≤ said ∧ said + 24 * ((l : Int) + 1) ≤ 200) → (0 ≤ met ∧ met < 16777216) → (0 ≤ losses ∧ losses < 16777216) → (∀ i, 0 ≤ i → tb losses i = true → tb met i = true) → conv bX1_explore (l + 1) [(2, 50), (0, come), (0, said), (0, met), (0, losses), (0, (l : Int))] mem (fun m => exFr mem m ∧ bstE (mem 50 8) (mem 50 9, mem 50 10) (candE (mem 23 1) (mem 38) l come said met losses) (m 50 9, m 50 10)) := by
  induction l with
  | zero =>
    intro mem come said met losses hp hc hs hm hl hsub
    have hn := hp.1
    refine cn_X1_explore (bk_X1_explore_0 (d1 := 0) (P1 := fun m => exFr mem m ∧ (m 50 9, m 50 10) = stlE (mem 50 8) (mem 50 9, mem 50 10) (said + mem 23 1 - come, losses)) (fun _ => c_X1_settle mem _ losses (by omega) (by omega)) (fun g => absurd rfl g) (fun _ m w => ⟨w.1, ?_⟩))
    rw [w.2]
    refine bstE_congr (stlE_bst (mem 50 8) (mem 50 9, mem 50 10) (said + mem 23 1 - come, losses) (by show ¬ said + mem 23 1 - come = -1; omega)) (fun x y => ?_)
    have all := candE_all (n := mem 23 1) (to := mem 38) (l := 0) (said := said) (met := met) (losses := losses) hc x y
    rw [all]
    constructor
    · rintro ⟨h1, h2⟩
      exact Or.inr ⟨by rw [h1]; show said + mem 23 1 - come = _; omega, h2⟩
    · rintro (⟨rem, h1, h2, h3, h4, h5, h6, h7, h8⟩ | ⟨h1, h2⟩)
      · exact absurd (congrArg Prod.fst (if_neg h7 : rnS (mem 23 1) (mem 38) 0 come rem = (-1, 0))) h4
      · exact ⟨by rw [h1]; show _ = said + mem 23 1 - come; omega, h2⟩
  | succ l ihl =>
    intro mem come said met losses hp hc hs hm hl hsub
    have hn := hp.1
    have hto : toP (mem 23 1) (mem 38) := fun i i0 i1 => (hp.2 i i0 i1).2.2
    refine cn_X1_explore (bk_X1_explore_0 (d1 := 0) (P1 := fun _ => True) (fun z => by omega) (fun _ => ?_) (fun z => by omega))
    have lp : ∀ (t : Nat) (i msf : Int) (m : mmM), i + t = mem 23 1 → come ≤ i → exFr mem m → (0 ≤ msf ∧ msf < 16777216) → (∀ j, 0 ≤ j → (tb msf j = true ↔ (tb met j = true ∨ (come ≤ j ∧ j < i)))) → bstE (mem 50 8) (mem 50 9, mem 50 10) (candI (mem 23 1) (mem 38) (l + 1) come said met losses i) (m 50 9, m 50 10) → mmT bX1_explore (l + 1 + 1) 0 0 (mQv (fun m => exFr mem m ∧ bstE (mem 50 8) (mem 50 9, mem 50 10) (candE (mem 23 1) (mem 38) (l + 1) come said met losses) (m 50 9, m 50 10))) 29 [(2, 50), (0, come), (0, said), (9, 0), (0, losses), (0, ((l + 1 : Nat) : Int)), (0, msf), (0, i), (9, 0)] [] mS m := by
      intro t
      induction t with
      | zero =>
        intro i msf m hi hci f hmf hmb hb
        have e23 : m 23 = mem 23 := f.1 23 (by decide)
        have e8 : m 50 8 = mem 50 8 := f.2 8 (by decide) (by decide)
        refine bk_X1_explore_29 (d1 := 0) (d2 := 0) (P1 := fun m1 => exFr m m1 ∧ (m1 50 9, m1 50 10) = stlE (m 50 8) (m 50 9, m 50 10) (said + m 23 1 - come, losses)) (P2 := fun _ => True) (fun _ => c_X1_settle m _ losses (by rw [e23]; omega) (by omega)) (fun z => by rw [e23] at z; omega) (fun z => by rw [e23] at z; omega) (fun z => by rw [e23] at z; omega) (fun z => by rw [e23] at z; omega) (fun _ m1 w => ⟨f.trans w.1, ?_⟩) (s2 := fun z => by rw [e23] at z; omega)
        rw [w.2, e8, e23]
        refine bstE_trans hb (stlE_bst (mem 50 8) (m 50 9, m 50 10) (said + mem 23 1 - come, losses) (by show ¬ said + mem 23 1 - come = -1; omega)) (fun x y => ?_)
        rw [candE_all hc x y, show i = mem 23 1 by omega]
        constructor
        · rintro (h | ⟨h1, h2⟩)
          · exact Or.inl h
          · exact Or.inr ⟨by rw [h1]; show _ = said + mem 23 1 - come; omega, h2⟩
        · rintro (h | ⟨h1, h2⟩)
          · exact Or.inl h
          · exact Or.inr ⟨by rw [h1]; show said + mem 23 1 - come = _; omega, h2⟩
      | succ t iht =>
        intro i msf m hi hci f hmf hmb hb
        have e23 : m 23 = mem 23 := f.1 23 (by decide)
        have e38 : m 38 = mem 38 := f.1 38 (by decide)
        have e8 : m 50 8 = mem 50 8 := f.2 8 (by decide) (by decide)
        have i24 : 0 ≤ i ∧ i < 24 := by omega
        have ms := met_step hmf i24
        have mb' : ∀ j, 0 ≤ j → (tb (or32 msf (shl32 1 i)) j = true ↔ (tb met j = true ∨ (come ≤ j ∧ j < i + 1))) := by
          intro j j0
          rw [ms.2.1 j j0, hmb j j0]
          constructor
          · rintro ((h | h) | h)
            · exact Or.inl h
            · exact Or.inr (by omega)
            · exact Or.inr (by omega)
          · rintro (h | h)
            · exact Or.inl (Or.inl h)
            · by_cases q : i = j
              · exact Or.inr q
              · exact Or.inl (Or.inr (by omega))
        have mm : tb msf i = tb met i := by
          have := hmb i (by omega)
          cases q : tb met i
          · cases w : tb msf i
            · rfl
            · rcases this.mp w with z | z
              · rw [q] at z
                cases z
              · omega
          · exact this.mpr (Or.inl q)
        have ti := hto i (by omega) (by omega)
        have skip : (tb met i = true ∨ mem 38 i = -1) → mmT bX1_explore (l + 1 + 1) 0 0 (mQv (fun m => exFr mem m ∧ bstE (mem 50 8) (mem 50 9, mem 50 10) (candE (mem 23 1) (mem 38) (l + 1) come said met losses) (m 50 9, m 50 10))) 29 [(2, 50), (0, come), (0, said), (9, 0), (0, losses), (0, ((l + 1 : Nat) : Int)), (0, or32 msf (shl32 1 i)), (0, i + 1), (9, 0)] [] mS m := fun h => iht (i + 1) _ m (by omega) (by omega) f ms.1 mb' (bstE_congr hb (fun x y => (candI_skip hc ⟨hci, by omega⟩ h x y).symm))
        refine bk_X1_explore_29 (d1 := 0) (d2 := l + 1) (P1 := fun _ => True) (P2 := fun m1 => exFr m m1 ∧ bstE (mem 50 8) (m 50 9, m 50 10) (candE (mem 23 1) (mem 38) l (mem 38 i + 1) (said + (i - come) + 1) (or32 msf (shl32 1 i)) (losses + p2 i)) (m1 50 9, m1 50 10)) (fun z => by rw [e23] at z; omega) (fun z z2 z3 => ?_) (fun z z2 => ?_) (fun z z2 z3 => ?_) (fun z z2 z3 m1 w => ?_) (fun z => by rw [e23] at z; omega) (s2 := fun z _ => i24)
        · rw [e38] at z3 ⊢
          have hm0 : tb met i = false := by rw [← mm]; exact ms.2.2.mp z2
          have hl0 : tb losses i = false := by
            cases q : tb losses i
            · rfl
            · rw [hsub i (by omega) q] at hm0
              cases hm0
          have e24 : p2 24 = 16777216 := by decide +kernel
          have ad := tb_add (x := losses) (k := i) (b := 24) hl.1 (by omega) (by omega) (by omega) (by decide) hl0
          rw [ad.2.1]
          have c := ihl m (mem 38 i + 1) (said + (i - come) + 1) (or32 msf (shl32 1 i)) (losses + p2 i) (by unfold playX; rw [e23, f.1 24 (by decide), f.1 26 (by decide), e38]; exact hp) (by rw [e23]; omega) (by omega) ms.1 (by omega) (fun j j0 hj => by
            rw [ad.2.2 j j0, Bool.or_eq_true, decide_eq_true_iff] at hj
            rw [ms.2.1 j j0]
            rcases hj with hj | hj
            · exact Or.inl ((hmb j j0).mpr (Or.inl (hsub j j0 hj)))
            · exact Or.inr hj)
          rw [e23, e38, e8] at c
          rw [show said + i - come + 1 = said + (i - come) + 1 by omega, show ((l + 1 : Nat) : Int) - 1 = (l : Int) by omega]
          exact c
        · refine skip (Or.inl ?_)
          rw [← mm]
          cases q : tb msf i
          · exact absurd (ms.2.2.mpr q) z2
          · rfl
        · rw [e38] at z3
          exact skip (Or.inr z3)
        · rw [e38] at z3
          have hm0 : tb met i = false := by rw [← mm]; exact ms.2.2.mp z2
          refine iht (i + 1) _ m1 (by omega) (by omega) (f.trans w.1) ms.1 mb' ?_
          exact bstE_trans hb w.2 (fun x y => candI_step hn hto hc ⟨hci, by omega⟩ hm0 z3 (or32 msf (shl32 1 i)) (fun j j0 => by
            rw [mb' j j0]
            constructor
            · rintro (h | h)
              · exact Or.inl h
              · exact Or.inr (by omega)
            · rintro (h | h)
              · exact Or.inl h
              · exact Or.inr (by omega)) x y)
    exact lp (mem 23 1 - come).toNat come met mem (by omega) (Int.le_refl _) ⟨fun _ _ => rfl, fun _ _ _ => rfl⟩ hm (fun j j0 => ⟨fun h => Or.inl h, fun h => h.elim id (fun z => by omega)⟩) (bstE_none (fun x y => candI_first hc))
/-- the best evening with no more than k losses -/
def extP (n : Int) (to : Int → Int) (k : Nat) (long : Int) (b : Int × Int) : Prop := candE n to k 0 0 0 0 b.1 b.2 ∧ ∀ x y, candE n to k 0 0 0 0 x y → leqE long b (x, y)
theorem extP_unique {n : Int} {to : Int → Int} {k : Nat} {long : Int} {b b' : Int × Int} (h : extP n to k long b) (h' : extP n to k long b') : b = b' := leqE_anti (h.2 b'.1 b'.2 h'.1) (h'.2 b.1 b.2 h.1)
def ext1Fr (mem m : mmM) : Prop := ∀ a, a ≠ 50 → m a = mem a
theorem c_X1_search (mem : mmM) (x1 x2 : Int) (hp : playX mem) (h1 : 0 ≤ x1 ∧ x1 ≤ 4) (h2 : x2 = 0 ∨ x2 = 1) : conv bX1_search 6 [(2, 50), (0, x1), (0, x2)] mem (fun m => ext1Fr mem m ∧ extP (mem 23 1) (mem 38) x1.toNat x2 (m 50 9, m 50 10)) := by
  have hn := hp.1
  have ne : ∀ a, a ≠ 50 → mset (mset (mset mem 50 8 x2) 50 9 (-1)) 50 10 (-1) a = mem a := fun a ha => by rw [mset_ne ha, mset_ne ha, mset_ne ha]
  have c := c_X1_explore x1.toNat (mset (mset (mset mem 50 8 x2) 50 9 (-1)) 50 10 (-1)) 0 0 0 0 (by unfold playX; rw [ne 23 (by decide), ne 24 (by decide), ne 26 (by decide), ne 38 (by decide)]; exact hp) (by rw [ne 23 (by decide)]; omega) (by omega) (by omega) (by omega) (fun i i0 h => by rw [tb_0] at h; cases h)
  have e8 : mset (mset (mset mem 50 8 x2) 50 9 (-1)) 50 10 (-1) 50 8 = x2 := by rw [mset_at, if_neg (by decide), mset_at, if_neg (by decide), mset_same]
  have e9 : mset (mset (mset mem 50 8 x2) 50 9 (-1)) 50 10 (-1) 50 9 = -1 := by rw [mset_at, if_neg (by decide), mset_same]
  have e10 : mset (mset (mset mem 50 8 x2) 50 9 (-1)) 50 10 (-1) 50 10 = -1 := mset_same _ _ _ _
  rw [e8, e9, e10, ne 23 (by decide), ne 38 (by decide), show ((x1.toNat : Nat) : Int) = x1 by omega] at c
  refine cn_X1_search (bk_X1_search_0 (d1 := x1.toNat + 1) c (fun m w => ⟨fun a ha => (w.1.1 a ha).trans (ne a ha), ?_⟩))
  obtain ⟨b1, b2, b3⟩ := w.2
  have some : candE (mem 23 1) (mem 38) x1.toNat 0 0 0 0 (0 + (mem 23 1 - 0)) 0 := (candE_all (by omega) _ _).mpr (Or.inr ⟨rfl, rfl⟩)
  have nn := (b3 _ _ some).1
  refine ⟨?_, fun x y h => (b3 x y h).2⟩
  rcases b1 with b1 | b1
  · exact absurd (congrArg Prod.fst b1) nn
  · exact b1.1
theorem c_X11_extreme (mem : mmM) (x1 x2 x3 : Int) (h1 : R32 x1) (h2 : R32 x2) (h3 : x3 = 0 ∨ x3 = 1) (hp : playX mem) : con 0 bX11_extreme 7 [(2, 0), (0, x1), (0, x2), (0, x3)] mem (fun v m => ((¬ (0 < mem 23 1 ∧ (0 ≤ x1 ∧ x1 ≤ 4) ∧ 0 ≤ x2 ∧ x2 ≤ 1) ∧ v = -1) ∨ ((0 < mem 23 1 ∧ (0 ≤ x1 ∧ x1 ≤ 4) ∧ 0 ≤ x2 ∧ x2 ≤ 1) ∧ ∃ b, extP (mem 23 1) (mem 38) x1.toNat x3 b ∧ v = (if x2 = 0 then b.1 else b.2))) ∧ ext1Fr mem m) := by
  have hn := hp.1
  have no : ext1Fr mem mem := fun _ _ => rfl
  refine cn_X11_extreme (bk_X11_extreme_0 (fun g g2 g3 g4 g5 => c_X1_search mem x1 x3 hp ⟨g2, g3⟩ h3) (fun g => ⟨Or.inl ⟨by omega, rfl⟩, no⟩) (fun g g2 => ⟨Or.inl ⟨by omega, rfl⟩, no⟩) (fun g g2 g3 => ⟨Or.inl ⟨by omega, rfl⟩, no⟩) (fun g g2 g3 g4 => ⟨Or.inl ⟨by omega, rfl⟩, no⟩) (fun g g2 g3 g4 g5 m w g6 => ⟨Or.inr ⟨by omega, _, w.2, by rw [if_neg g6]⟩, w.1⟩) (fun g g2 g3 g4 g5 m w g6 => ⟨Or.inr ⟨by omega, _, w.2, by rw [if_pos g6]⟩, w.1⟩) (fun g g2 g3 g4 g5 => ⟨Or.inl ⟨by omega, rfl⟩, no⟩))
def extQ (n : Int) (to : Int → Int) (x1 x2 long v : Int) : Prop := (¬ (0 < n ∧ (0 ≤ x1 ∧ x1 ≤ 4) ∧ 0 ≤ x2 ∧ x2 ≤ 1) ∧ v = -1) ∨ ((0 < n ∧ (0 ≤ x1 ∧ x1 ≤ 4) ∧ 0 ≤ x2 ∧ x2 ≤ 1) ∧ ∃ b, extP n to x1.toNat long b ∧ v = (if x2 = 0 then b.1 else b.2))
theorem extQ_unique {n : Int} {to : Int → Int} {x1 x2 long v v' : Int} (h : extQ n to x1 x2 long v) (h' : extQ n to x1 x2 long v') : v = v' := by
  rcases h with ⟨h1, h2⟩ | ⟨h1, b, h2, h3⟩
  · rcases h' with ⟨g1, g2⟩ | ⟨g1, _⟩
    · rw [h2, g2]
    · exact absurd g1 h1
  · rcases h' with ⟨g1, g2⟩ | ⟨g1, b', g2, g3⟩
    · exact absurd h1 g1
    · rw [h3, g3, extP_unique h2 g2]
theorem c_X11_shortest (mem : mmM) (x1 x2 : Int) (h1 : R32 x1) (h2 : R32 x2) (hp : playX mem) : con 0 bX11_shortest 8 [(2, 0), (0, x1), (0, x2)] mem (fun v m => extQ (mem 23 1) (mem 38) x1 x2 0 v ∧ ext1Fr mem m) :=
  cn_X11_shortest (bk_X11_shortest_0 (c_X11_extreme mem x1 x2 0 h1 h2 (Or.inl rfl) hp) (fun v m w => w))
theorem c_X11_longest (mem : mmM) (x1 x2 : Int) (h1 : R32 x1) (h2 : R32 x2) (hp : playX mem) : con 0 bX11_longest 8 [(2, 0), (0, x1), (0, x2)] mem (fun v m => extQ (mem 23 1) (mem 38) x1 x2 1 v ∧ ext1Fr mem m) :=
  cn_X11_longest (bk_X11_longest_0 (c_X11_extreme mem x1 x2 1 h1 h2 (Or.inr rfl) hp) (fun v m w => w))
