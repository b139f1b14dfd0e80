/-! who can be played by one -/
noncomputable def pB (p : Prop) : Bool := @decide p (Classical.propDecidable p)
theorem pB_iff {p : Prop} : pB p = true ↔ p := @decide_eq_true_iff p (Classical.propDecidable p)
theorem pB_no {p : Prop} (h : ¬ p) : pB p = false := Bool.eq_false_iff.mpr (fun z => h (pB_iff.mp z))
def nearP (n : Int) (ac : Int → Int) (nr a b : Int) : Prop := ∃ s o, (0 ≤ s ∧ s < n) ∧ (0 ≤ o ∧ o < n) ∧ ac s = a ∧ ac o = b ∧ -nr < s - o ∧ s - o < nr
theorem nearP_symm {n : Int} {ac : Int → Int} {nr a b : Int} (h : nearP n ac nr a b) : nearP n ac nr b a := by
  obtain ⟨s, o, h1, h2, h3, h4, h5, h6⟩ := h
  exact ⟨o, s, h2, h1, h4, h3, by omega, by omega⟩
def shareP (n : Int) (ac : Int → Int) (nr g : Int) : Prop := ∀ a b, (0 ≤ a ∧ a < 8) → (0 ≤ b ∧ b < 8) → ¬ a = b → tb g a = true → tb g b = true → ¬ nearP n ac nr a b
theorem andnot_tb {x y b : Int} (x0 : 0 ≤ x) (x1 : x < p2 b) (y0 : 0 ≤ y) (y1 : y < p2 b) (hb : b ≤ 31) : (0 ≤ and32 x (xor32 y (-1)) ∧ and32 x (xor32 y (-1)) < p2 b) ∧ ∀ j, tb (and32 x (xor32 y (-1))) j = (tb x j && !tb y j) := by
  have hm := p2_mono hb
  have e31 : p2 31 = 2147483648 := by decide +kernel
  have e : and32 x (xor32 y (-1)) = ((x.toNat ^^^ (x.toNat &&& y.toNat) : Nat) : Int) := by
    have le : x.toNat &&& y.toNat ≤ x.toNat := Nat.and_le_left
    rw [andnot32, and32_tn x0 (by omega) y0 (by omega), xor32_tn x0 (by omega) (by omega) (by omega), Int.toNat_natCast]
  rw [e]
  refine ⟨⟨by omega, ?_⟩, fun j => ?_⟩
  · have le : x.toNat &&& y.toNat ≤ x.toNat := Nat.and_le_left
    unfold p2 at *
    have : x.toNat ^^^ (x.toNat &&& y.toNat) < 2 ^ b.toNat := Nat.xor_lt_two_pow (by omega) (by omega)
    omega
  · unfold tb
    rw [Int.toNat_natCast, Nat.testBit_xor, Nat.testBit_and]
    cases x.toNat.testBit j.toNat <;> cases y.toNat.testBit j.toNat <;> rfl
theorem e256 : p2 8 = 256 := by decide +kernel
/-- pairs of speeches that are already looked at -/
def nearQ (ac : Int → Int) (nr i j a b : Int) : Prop := ∃ s o, 0 ≤ o ∧ o < s ∧ (s < i ∨ (s = i ∧ o < j)) ∧ s - o < nr ∧ ((ac s = a ∧ ac o = b) ∨ (ac s = b ∧ ac o = a))
theorem nearQ_all {n : Int} {ac : Int → Int} {nr a b : Int} (hab : ¬ a = b) (hnr : 1 ≤ nr) : nearQ ac nr n 0 a b ↔ nearP n ac nr a b := by
  constructor
  · rintro ⟨s, o, h0, h1, h2, h3, h4 | h4⟩
    · exact ⟨s, o, by omega, by omega, h4.1, h4.2, by omega, by omega⟩
    · exact ⟨o, s, by omega, by omega, h4.2, h4.1, by omega, by omega⟩
  · rintro ⟨s, o, h1, h2, h3, h4, h5, h6⟩
    rcases Int.lt_trichotomy s o with q | q | q
    · exact ⟨o, s, by omega, by omega, by omega, by omega, Or.inr ⟨h4, h3⟩⟩
    · rw [q, h4] at h3
      exact absurd h3.symm hab
    · exact ⟨s, o, by omega, by omega, by omega, by omega, Or.inl ⟨h3, h4⟩⟩
theorem nearQ_next {ac : Int → Int} {nr i j a b : Int} (hj : 0 ≤ j ∧ j < i) : nearQ ac nr i (j + 1) a b ↔ (nearQ ac nr i j a b ∨ (i - j < nr ∧ ((ac i = a ∧ ac j = b) ∨ (ac i = b ∧ ac j = a)))) := by
  constructor
  · rintro ⟨s, o, h0, h1, h2, h3, h4⟩
    by_cases c : s = i ∧ o = j
    · rw [c.1, c.2] at h4 h3
      exact Or.inr ⟨h3, h4⟩
    · exact Or.inl ⟨s, o, h0, h1, by omega, h3, h4⟩
  · rintro (⟨s, o, h0, h1, h2, h3, h4⟩ | ⟨h3, h4⟩)
    · exact ⟨s, o, h0, h1, by omega, h3, h4⟩
    · exact ⟨i, j, hj.1, hj.2, Or.inr ⟨rfl, by omega⟩, h3, h4⟩
theorem nearQ_row {ac : Int → Int} {nr i j a b : Int} (h : i ≤ j) : nearQ ac nr i j a b ↔ nearQ ac nr (i + 1) 0 a b := by
  constructor
  · rintro ⟨s, o, h0, h1, h2, h3, h4⟩
    exact ⟨s, o, h0, h1, by omega, h3, h4⟩
  · rintro ⟨s, o, h0, h1, h2, h3, h4⟩
    exact ⟨s, o, h0, h1, by omega, h3, h4⟩
def plFr (mem m : mmM) : Prop := ∀ a, a ≠ 33 → a ≠ 34 → m a = mem a
def shrQ (n : Int) (ac : Int → Int) (nr : Int) (Q : Int → Int → Prop) (m : mmM) : Prop := ∀ a, 0 ≤ a → a < 8 → (0 ≤ m 33 a ∧ m 33 a < 256) ∧ ∀ b, 0 ≤ b → (tb (m 33 a) b = true ↔ (tb (actF n ac) a = true ∧ tb (actF n ac) b = true ∧ ¬ a = b ∧ ¬ Q a b))
theorem cn_X8_findSharers {d : Nat} {P : mmM → Prop} {mem : mmM} {x1 : Int} (h : mmT bX8_findSharers d 0 0 (mQv P) 0 [(2, 23), (0, x1), (9, 0), (9, 0), (9, 0)] [] mS mem) : conv bX8_findSharers d [(2, 23), (0, x1)] mem P := mmC_of [(2, 23), (0, x1), (9, 0), (9, 0), (9, 0)] ok_X8_findSharers.2.2.2.2 rfl (Nat.le_of_ble_eq_true rfl) h
theorem bk_X8_findSharers_0 {d : Nat} {P : mmM → Prop} {mem : mmM} {x1 : Int}
  (k1 : mmT bX8_findSharers d 0 0 (mQv P) 7 [(2, 23), (0, x1), (0, (actF (mem 23 1) (mem 24))), (0, 0), (9, 0)] [] mS mem)
  (hd2 : 2 ≤ d := by omega)
  (s1 : 0 ≤ (mem 23 1) ∧ (mem 23 1) ≤ 24 := by intros; first | omega | assumption | solve_by_elim)
  : mmT bX8_findSharers d 0 0 (mQv P) 0 [(2, 23), (0, x1), (9, 0), (9, 0), (9, 0)] [] mS mem := by
  refine st_aload_n (i := 0) rfl (t := 0) rfl (by decide) dX8_findSharers_0 ?_
  refine st_callV (kc2 := 0) (ks2 := 0) (av := []) 23 8 mr_X8_81 ok_X8_actors (c_X8_actors mem (s1)) rfl sh_23 ⟨_, rfl, rfl, by decide⟩ rfl rfl hd2 (Nat.le_refl 0) (Nat.le_refl 0) (Nat.le_of_ble_eq_true rfl) dX8_findSharers_1 (mQ.elim fun v1 m1 hp => ?_)
  obtain ⟨hpv, hpm⟩ := hp
  subst hpv
  have hpm := hpm.symm
  subst hpm
  refine st_istore_n (i := 2) rfl (by decide) (lc' := [(2, 23), (0, x1), (0, (actF (mem 23 1) (mem 24))), (9, 0), (9, 0)]) rfl dX8_findSharers_4 ?_
  refine st_iconst dX8_findSharers_5 ?_
  refine st_istore_n (i := 3) rfl (by decide) (lc' := [(2, 23), (0, x1), (0, (actF (mem 23 1) (mem 24))), (0, 0), (9, 0)]) rfl dX8_findSharers_6 ?_
  exact st_locals [(2, 23), (0, x1), (0, (actF (mem 23 1) (mem 24))), (0, 0), (9, 0)] ⟨Or.inr rfl, Or.inr rfl, Or.inr rfl, Or.inr rfl, Or.inl rfl, trivial⟩ k1
theorem bk_X8_findSharers_7 {d : Nat} {P : mmM → Prop} {mem : mmM} {x1 x2 x3 : Int}
  (k1 : 8 ≤ x3 → mmT bX8_findSharers d 0 0 (mQv P) 46 [(2, 23), (0, x1), (9, 0), (0, 0), (9, 0)] [] mS mem)
  (k2 : x3 < 8 → ¬ (and32 (shr32 x2 x3) 1) = 0 → mmT bX8_findSharers d 0 0 (mQv P) 7 [(2, 23), (0, x1), (0, x2), (0, (x3 + 1)), (9, 0)] [] mS (mset mem 33 x3 (and32 x2 (xor32 (shl32 1 x3) (-1)))))
  (k3 : x3 < 8 → (and32 (shr32 x2 x3) 1) = 0 → mmT bX8_findSharers d 0 0 (mQv P) 7 [(2, 23), (0, x1), (0, x2), (0, (x3 + 1)), (9, 0)] [] mS (mset mem 33 x3 0))
  (s1 : R32 x3 := by intros; first | omega | assumption | solve_by_elim)
  (s2 : x3 < 8 → ¬ (and32 (shr32 x2 x3) 1) = 0 → 0 ≤ x3 ∧ x3 < 8 := by intros; first | omega | assumption | solve_by_elim)
  (s3 : x3 < 8 → (and32 (shr32 x2 x3) 1) = 0 → 0 ≤ x3 ∧ x3 < 8 := by intros; first | omega | assumption | solve_by_elim)
  : mmT bX8_findSharers d 0 0 (mQv P) 7 [(2, 23), (0, x1), (0, x2), (0, x3), (9, 0)] [] mS mem := by
  refine st_iload_n (i := 3) rfl rfl dX8_findSharers_7 ?_
  refine st_bipush rfl dX8_findSharers_8 ?_
  refine sr_icmp_ge 44 s1 ⟨by decide, by decide⟩ (by decide) dX8_findSharers_10 (fun h1 => ?_) (fun h1 => ?_)
  · have h1 : 8 ≤ x3 := by omega
    refine st_iconst dX8_findSharers_44 ?_
    refine st_istore_n (i := 3) rfl (by decide) (lc' := [(2, 23), (0, x1), (0, x2), (0, 0), (9, 0)]) rfl dX8_findSharers_45 ?_
    exact st_locals [(2, 23), (0, x1), (9, 0), (0, 0), (9, 0)] ⟨Or.inr rfl, Or.inr rfl, Or.inl rfl, Or.inr rfl, Or.inl rfl, trivial⟩ (k1 h1)
  · have h1 : x3 < 8 := by omega
    refine st_aload_n (i := 0) rfl (t := 0) rfl (by decide) dX8_findSharers_13 ?_
    refine so_getA 23 11 fr_X8_39_8 rfl sh_23 fx_23_11 dX8_findSharers_14 ?_
    refine st_iload_n (i := 3) rfl rfl dX8_findSharers_17 ?_
    refine st_iload_n (i := 2) rfl rfl dX8_findSharers_18 ?_
    refine st_iload_n (i := 3) rfl rfl dX8_findSharers_19 ?_
    refine st_ishr dX8_findSharers_20 ?_
    refine st_iconst dX8_findSharers_21 ?_
    refine st_iand dX8_findSharers_22 ?_
    refine sr_if_ne 30 (and32_rng (shr32 x2 x3) 1) (by decide) dX8_findSharers_23 (fun h2 => ?_) (fun h2 => ?_)
    · have h2 : ¬ (and32 (shr32 x2 x3) 1) = 0 := by omega
      refine st_iload_n (i := 2) rfl rfl dX8_findSharers_30 ?_
      refine st_iconst dX8_findSharers_31 ?_
      refine st_iload_n (i := 3) rfl rfl dX8_findSharers_32 ?_
      refine st_ishl dX8_findSharers_33 ?_
      refine st_iconst dX8_findSharers_34 ?_
      refine st_ixor dX8_findSharers_35 ?_
      refine st_iand dX8_findSharers_36 ?_
      refine so_iast 33 fr_33 rfl sh_33 (by decide) (s2 h1 h2) (and32_rng x2 (xor32 (shl32 1 x3) (-1))) dX8_findSharers_37 ?_
      refine st_iinc (y := (x3 + 1)) (by decide) (i := 3) rfl rfl (lc' := [(2, 23), (0, x1), (0, x2), (0, (x3 + 1)), (9, 0)]) rfl dX8_findSharers_38 ?_
      refine st_goto 7 (by decide) dX8_findSharers_41 ?_
      exact st_locals [(2, 23), (0, x1), (0, x2), (0, (x3 + 1)), (9, 0)] ⟨Or.inr rfl, Or.inr rfl, Or.inr rfl, Or.inr rfl, Or.inl rfl, trivial⟩ (k2 h1 h2)
    · have h2 : (and32 (shr32 x2 x3) 1) = 0 := by omega
      refine st_iconst dX8_findSharers_26 ?_
      refine st_goto 37 (by decide) dX8_findSharers_27 ?_
      refine so_iast 33 fr_33 rfl sh_33 (by decide) (s3 h1 h2) ⟨by decide, by decide⟩ dX8_findSharers_37 ?_
      refine st_iinc (y := (x3 + 1)) (by decide) (i := 3) rfl rfl (lc' := [(2, 23), (0, x1), (0, x2), (0, (x3 + 1)), (9, 0)]) rfl dX8_findSharers_38 ?_
      refine st_goto 7 (by decide) dX8_findSharers_41 ?_
      exact st_locals [(2, 23), (0, x1), (0, x2), (0, (x3 + 1)), (9, 0)] ⟨Or.inr rfl, Or.inr rfl, Or.inr rfl, Or.inr rfl, Or.inl rfl, trivial⟩ (k3 h1 h2)
theorem bk_X8_findSharers_46 {d : Nat} {P : mmM → Prop} {mem : mmM} {x1 x3 : Int}
  (k1 : x3 < (mem 23 1) → mmT bX8_findSharers d 0 0 (mQv P) 57 [(2, 23), (0, x1), (9, 0), (0, x3), (0, 0)] [] mS mem)
  (q1 : (mem 23 1) ≤ x3 → P mem)
  (s1 : R32 x3 := by intros; first | omega | assumption | solve_by_elim)
  : mmT bX8_findSharers d 0 0 (mQv P) 46 [(2, 23), (0, x1), (9, 0), (0, x3), (9, 0)] [] mS mem := by
  refine st_iload_n (i := 3) rfl rfl dX8_findSharers_46 ?_
  refine st_aload_n (i := 0) rfl (t := 0) rfl (by decide) dX8_findSharers_47 ?_
  refine so_getI (v := (mem 23 1)) 23 1 fr_X8_60_8 rfl sh_23 rfl dX8_findSharers_48 (fun r1 => ?_)
  refine sr_icmp_ge 149 s1 r1 (by decide) dX8_findSharers_51 (fun h1 => ?_) (fun h1 => ?_)
  · have h1 : (mem 23 1) ≤ x3 := by omega
    exact st_return rfl dX8_findSharers_149 (mQv.ret (q1 h1))
  · have h1 : x3 < (mem 23 1) := by omega
    refine st_iconst dX8_findSharers_54 ?_
    refine st_istore (by decide) (lc' := [(2, 23), (0, x1), (9, 0), (0, x3), (0, 0)]) rfl dX8_findSharers_55 ?_
    exact st_locals [(2, 23), (0, x1), (9, 0), (0, x3), (0, 0)] ⟨Or.inr rfl, Or.inr rfl, Or.inl rfl, Or.inr rfl, Or.inr rfl, trivial⟩ (k1 h1)
theorem bk_X8_findSharers_57 {d : Nat} {P : mmM → Prop} {mem : mmM} {x1 x3 x4 : Int}
  (k1 : x3 ≤ x4 → mmT bX8_findSharers d 0 0 (mQv P) 46 [(2, 23), (0, x1), (9, 0), (0, (x3 + 1)), (9, 0)] [] mS mem)
  (k2 : x4 < x3 → x1 ≤ (x3 - x4) → mmT bX8_findSharers d 0 0 (mQv P) 57 [(2, 23), (0, x1), (9, 0), (0, x3), (0, (x4 + 1))] [] mS mem)
  (k3 : x4 < x3 → (x3 - x4) < x1 → (mem 24 x3) = (mem 24 x4) → mmT bX8_findSharers d 0 0 (mQv P) 57 [(2, 23), (0, x1), (9, 0), (0, x3), (0, (x4 + 1))] [] mS mem)
  (k4 : x4 < x3 → (x3 - x4) < x1 → ¬ (mem 24 x3) = (mem 24 x4) → mmT bX8_findSharers d 0 0 (mQv P) 57 [(2, 23), (0, x1), (9, 0), (0, x3), (0, (x4 + 1))] [] mS (mset (mset mem 33 (mem 24 x3) (and32 (mem 33 (mem 24 x3)) (xor32 (shl32 1 (mem 24 x4)) (-1)))) 33 (mem 24 x4) (and32 ((mset mem 33 (mem 24 x3) (and32 (mem 33 (mem 24 x3)) (xor32 (shl32 1 (mem 24 x4)) (-1)))) 33 (mem 24 x4)) (xor32 (shl32 1 (mem 24 x3)) (-1)))))
  (s1 : R32 x4 := by intros; first | omega | assumption | solve_by_elim)
  (s2 : R32 x3 := by intros; first | omega | assumption | solve_by_elim)
  (s3 : x4 < x3 → R32 (x3 - x4) := by intros; first | omega | assumption | solve_by_elim)
  (s4 : x4 < x3 → R32 x1 := by intros; first | omega | assumption | solve_by_elim)
  (s5 : x4 < x3 → (x3 - x4) < x1 → 0 ≤ x3 ∧ x3 < 24 := by intros; first | omega | assumption | solve_by_elim)
  (s6 : x4 < x3 → (x3 - x4) < x1 → 0 ≤ x4 ∧ x4 < 24 := by intros; first | omega | assumption | solve_by_elim)
  (s7 : x4 < x3 → (x3 - x4) < x1 → ¬ (mem 24 x3) = (mem 24 x4) → 0 ≤ (mem 24 x3) ∧ (mem 24 x3) < 8 := by intros; first | omega | assumption | solve_by_elim)
  (s8 : x4 < x3 → (x3 - x4) < x1 → ¬ (mem 24 x3) = (mem 24 x4) → 0 ≤ (mem 24 x4) ∧ (mem 24 x4) < 8 := by intros; first | omega | assumption | solve_by_elim)
  : mmT bX8_findSharers d 0 0 (mQv P) 57 [(2, 23), (0, x1), (9, 0), (0, x3), (0, x4)] [] mS mem := by
  refine st_iload rfl dX8_findSharers_57 ?_
  refine st_iload_n (i := 3) rfl rfl dX8_findSharers_59 ?_
  refine sr_icmp_ge 143 s1 s2 (by decide) dX8_findSharers_60 (fun h1 => ?_) (fun h1 => ?_)
  · have h1 : x3 ≤ x4 := by omega
    refine st_iinc (y := (x3 + 1)) (by decide) (i := 3) rfl rfl (lc' := [(2, 23), (0, x1), (9, 0), (0, (x3 + 1)), (0, x4)]) rfl dX8_findSharers_143 ?_
    refine st_goto 46 (by decide) dX8_findSharers_146 ?_
    exact st_locals [(2, 23), (0, x1), (9, 0), (0, (x3 + 1)), (9, 0)] ⟨Or.inr rfl, Or.inr rfl, Or.inl rfl, Or.inr rfl, Or.inl rfl, trivial⟩ (k1 h1)
  · have h1 : x4 < x3 := by omega
    refine st_iload_n (i := 3) rfl rfl dX8_findSharers_63 ?_
    refine st_iload rfl dX8_findSharers_64 ?_
    refine st_isub dX8_findSharers_66 ?_
    refine st_iload_n (i := 1) rfl rfl dX8_findSharers_67 ?_
    refine sr_icmp_ge 137 (s3 h1) (s4 h1) (by decide) dX8_findSharers_68 (fun h2 => ?_) (fun h2 => ?_)
    · have h2 : x1 ≤ (x3 - x4) := by omega
      refine st_iinc (y := (x4 + 1)) (by decide) (i := 4) rfl rfl (lc' := [(2, 23), (0, x1), (9, 0), (0, x3), (0, (x4 + 1))]) rfl dX8_findSharers_137 ?_
      refine st_goto 57 (by decide) dX8_findSharers_140 ?_
      exact st_locals [(2, 23), (0, x1), (9, 0), (0, x3), (0, (x4 + 1))] ⟨Or.inr rfl, Or.inr rfl, Or.inl rfl, Or.inr rfl, Or.inr rfl, trivial⟩ (k2 h1 h2)
    · have h2 : (x3 - x4) < x1 := by omega
      refine st_aload_n (i := 0) rfl (t := 0) rfl (by decide) dX8_findSharers_71 ?_
      refine so_getA 23 2 fr_X8_9_8 rfl sh_23 fx_23_2 dX8_findSharers_72 ?_
      refine st_iload_n (i := 3) rfl rfl dX8_findSharers_75 ?_
      refine so_iald (v := (mem 24 x3)) 24 rfl sh_24 (by decide) (s5 h1 h2) rfl dX8_findSharers_76 (fun r1 => ?_)
      refine st_aload_n (i := 0) rfl (t := 0) rfl (by decide) dX8_findSharers_77 ?_
      refine so_getA 23 2 fr_X8_9_8 rfl sh_23 fx_23_2 dX8_findSharers_78 ?_
      refine st_iload rfl dX8_findSharers_81 ?_
      refine so_iald (v := (mem 24 x4)) 24 rfl sh_24 (by decide) (s6 h1 h2) rfl dX8_findSharers_83 (fun r2 => ?_)
      refine sr_icmp_eq 137 r1 r2 (by decide) dX8_findSharers_84 (fun h3 => ?_) (fun h3 => ?_)
      · have h3 : (mem 24 x3) = (mem 24 x4) := by omega
        refine st_iinc (y := (x4 + 1)) (by decide) (i := 4) rfl rfl (lc' := [(2, 23), (0, x1), (9, 0), (0, x3), (0, (x4 + 1))]) rfl dX8_findSharers_137 ?_
        refine st_goto 57 (by decide) dX8_findSharers_140 ?_
        exact st_locals [(2, 23), (0, x1), (9, 0), (0, x3), (0, (x4 + 1))] ⟨Or.inr rfl, Or.inr rfl, Or.inl rfl, Or.inr rfl, Or.inr rfl, trivial⟩ (k3 h1 h2 h3)
      · have h3 : ¬ (mem 24 x3) = (mem 24 x4) := by omega
        refine st_aload_n (i := 0) rfl (t := 0) rfl (by decide) dX8_findSharers_87 ?_
        refine so_getA 23 11 fr_X8_39_8 rfl sh_23 fx_23_11 dX8_findSharers_88 ?_
        refine st_aload_n (i := 0) rfl (t := 0) rfl (by decide) dX8_findSharers_91 ?_
        refine so_getA 23 2 fr_X8_9_8 rfl sh_23 fx_23_2 dX8_findSharers_92 ?_
        refine st_iload_n (i := 3) rfl rfl dX8_findSharers_95 ?_
        refine so_iald (v := (mem 24 x3)) 24 rfl sh_24 (by decide) (s5 h1 h2) rfl dX8_findSharers_96 (fun r3 => ?_)
        refine st_dup2 (Nat.ne_of_beq_eq_false rfl) (Nat.ne_of_beq_eq_false rfl) dX8_findSharers_97 ?_
        refine so_iald (v := (mem 33 (mem 24 x3))) 33 rfl sh_33 (by decide) (s7 h1 h2 h3) rfl dX8_findSharers_98 (fun r4 => ?_)
        refine st_iconst dX8_findSharers_99 ?_
        refine st_aload_n (i := 0) rfl (t := 0) rfl (by decide) dX8_findSharers_100 ?_
        refine so_getA 23 2 fr_X8_9_8 rfl sh_23 fx_23_2 dX8_findSharers_101 ?_
        refine st_iload rfl dX8_findSharers_104 ?_
        refine so_iald (v := (mem 24 x4)) 24 rfl sh_24 (by decide) (s6 h1 h2) rfl dX8_findSharers_106 (fun r5 => ?_)
        refine st_ishl dX8_findSharers_107 ?_
        refine st_iconst dX8_findSharers_108 ?_
        refine st_ixor dX8_findSharers_109 ?_
        refine st_iand dX8_findSharers_110 ?_
        refine so_iast 33 fr_33 rfl sh_33 (by decide) (s7 h1 h2 h3) (and32_rng (mem 33 (mem 24 x3)) (xor32 (shl32 1 (mem 24 x4)) (-1))) dX8_findSharers_111 ?_
        refine st_aload_n (i := 0) rfl (t := 0) rfl (by decide) dX8_findSharers_112 ?_
        refine so_getA 23 11 fr_X8_39_8 rfl sh_23 fx_23_11 dX8_findSharers_113 ?_
        refine st_aload_n (i := 0) rfl (t := 0) rfl (by decide) dX8_findSharers_116 ?_
        refine so_getA 23 2 fr_X8_9_8 rfl sh_23 fx_23_2 dX8_findSharers_117 ?_
        refine st_iload rfl dX8_findSharers_120 ?_
        refine so_iald (v := (mem 24 x4)) 24 rfl sh_24 (by decide) (s6 h1 h2) rfl dX8_findSharers_122 (fun r6 => ?_)
        refine st_dup2 (Nat.ne_of_beq_eq_false rfl) (Nat.ne_of_beq_eq_false rfl) dX8_findSharers_123 ?_
        refine so_iald (v := ((mset mem 33 (mem 24 x3) (and32 (mem 33 (mem 24 x3)) (xor32 (shl32 1 (mem 24 x4)) (-1)))) 33 (mem 24 x4))) 33 rfl sh_33 (by decide) (s8 h1 h2 h3) rfl dX8_findSharers_124 (fun r7 => ?_)
        refine st_iconst dX8_findSharers_125 ?_
        refine st_aload_n (i := 0) rfl (t := 0) rfl (by decide) dX8_findSharers_126 ?_
        refine so_getA 23 2 fr_X8_9_8 rfl sh_23 fx_23_2 dX8_findSharers_127 ?_
        refine st_iload_n (i := 3) rfl rfl dX8_findSharers_130 ?_
        refine so_iald (v := (mem 24 x3)) 24 rfl sh_24 (by decide) (s5 h1 h2) rfl dX8_findSharers_131 (fun r8 => ?_)
        refine st_ishl dX8_findSharers_132 ?_
        refine st_iconst dX8_findSharers_133 ?_
        refine st_ixor dX8_findSharers_134 ?_
        refine st_iand dX8_findSharers_135 ?_
        refine so_iast 33 fr_33 rfl sh_33 (by decide) (s8 h1 h2 h3) (and32_rng ((mset mem 33 (mem 24 x3) (and32 (mem 33 (mem 24 x3)) (xor32 (shl32 1 (mem 24 x4)) (-1)))) 33 (mem 24 x4)) (xor32 (shl32 1 (mem 24 x3)) (-1))) dX8_findSharers_136 ?_
        refine st_iinc (y := (x4 + 1)) (by decide) (i := 4) rfl rfl (lc' := [(2, 23), (0, x1), (9, 0), (0, x3), (0, (x4 + 1))]) rfl dX8_findSharers_137 ?_
        refine st_goto 57 (by decide) dX8_findSharers_140 ?_
        exact st_locals [(2, 23), (0, x1), (9, 0), (0, x3), (0, (x4 + 1))] ⟨Or.inr rfl, Or.inr rfl, Or.inl rfl, Or.inr rfl, Or.inr rfl, trivial⟩ (k4 h1 h2 h3)
theorem cn_X8_canShare {d : Nat} {P : Int → mmM → Prop} {mem : mmM} {x1 : Int} (h : mmT bX8_canShare d 0 0 (mQ 0 P) 0 [(2, 23), (0, x1), (9, 0)] [] mS mem) : con 0 bX8_canShare d [(2, 23), (0, x1)] mem P := mmC_of [(2, 23), (0, x1), (9, 0)] ok_X8_canShare.2.2.2.2 rfl (Nat.le_of_ble_eq_true rfl) h
theorem bk_X8_canShare_0 {d : Nat} {P : Int → mmM → Prop} {mem : mmM} {x1 : Int}
  (k1 : mmT bX8_canShare d 0 0 (mQ 0 P) 2 [(2, 23), (0, x1), (0, 0)] [] mS mem)
  : mmT bX8_canShare d 0 0 (mQ 0 P) 0 [(2, 23), (0, x1), (9, 0)] [] mS mem := by
  refine st_iconst dX8_canShare_0 ?_
  refine st_istore_n (i := 2) rfl (by decide) (lc' := [(2, 23), (0, x1), (0, 0)]) rfl dX8_canShare_1 ?_
  exact st_locals [(2, 23), (0, x1), (0, 0)] ⟨Or.inr rfl, Or.inr rfl, Or.inr rfl, trivial⟩ k1
theorem bk_X8_canShare_2 {d : Nat} {P : Int → mmM → Prop} {mem : mmM} {x1 x2 : Int}
  (k1 : x2 < 8 → (and32 (shr32 x1 x2) 1) = 0 → mmT bX8_canShare d 0 0 (mQ 0 P) 2 [(2, 23), (0, x1), (0, (x2 + 1))] [] mS mem)
  (k2 : x2 < 8 → ¬ (and32 (shr32 x1 x2) 1) = 0 → (and32 x1 (xor32 (or32 (mem 33 x2) (shl32 1 x2)) (-1))) = 0 → mmT bX8_canShare d 0 0 (mQ 0 P) 2 [(2, 23), (0, x1), (0, (x2 + 1))] [] mS mem)
  (q1 : 8 ≤ x2 → P 1 mem)
  (q2 : x2 < 8 → ¬ (and32 (shr32 x1 x2) 1) = 0 → ¬ (and32 x1 (xor32 (or32 (mem 33 x2) (shl32 1 x2)) (-1))) = 0 → P 0 mem)
  (s1 : R32 x2 := by intros; first | omega | assumption | solve_by_elim)
  (s2 : x2 < 8 → ¬ (and32 (shr32 x1 x2) 1) = 0 → 0 ≤ x2 ∧ x2 < 8 := by intros; first | omega | assumption | solve_by_elim)
  : mmT bX8_canShare d 0 0 (mQ 0 P) 2 [(2, 23), (0, x1), (0, x2)] [] mS mem := by
  refine st_iload_n (i := 2) rfl rfl dX8_canShare_2 ?_
  refine st_bipush rfl dX8_canShare_3 ?_
  refine sr_icmp_ge 41 s1 ⟨by decide, by decide⟩ (by decide) dX8_canShare_5 (fun h1 => ?_) (fun h1 => ?_)
  · have h1 : 8 ≤ x2 := by omega
    refine st_iconst dX8_canShare_41 ?_
    exact st_zreturn rfl (by decide) dX8_canShare_42 (mQ.ret (q1 h1))
  · have h1 : x2 < 8 := by omega
    refine st_iload_n (i := 1) rfl rfl dX8_canShare_8 ?_
    refine st_iload_n (i := 2) rfl rfl dX8_canShare_9 ?_
    refine st_ishr dX8_canShare_10 ?_
    refine st_iconst dX8_canShare_11 ?_
    refine st_iand dX8_canShare_12 ?_
    refine sr_if_eq 35 (and32_rng (shr32 x1 x2) 1) (by decide) dX8_canShare_13 (fun h2 => ?_) (fun h2 => ?_)
    · have h2 : (and32 (shr32 x1 x2) 1) = 0 := by omega
      refine st_iinc (y := (x2 + 1)) (by decide) (i := 2) rfl rfl (lc' := [(2, 23), (0, x1), (0, (x2 + 1))]) rfl dX8_canShare_35 ?_
      refine st_goto 2 (by decide) dX8_canShare_38 ?_
      exact st_locals [(2, 23), (0, x1), (0, (x2 + 1))] ⟨Or.inr rfl, Or.inr rfl, Or.inr rfl, trivial⟩ (k1 h1 h2)
    · have h2 : ¬ (and32 (shr32 x1 x2) 1) = 0 := by omega
      refine st_iload_n (i := 1) rfl rfl dX8_canShare_16 ?_
      refine st_aload_n (i := 0) rfl (t := 0) rfl (by decide) dX8_canShare_17 ?_
      refine so_getA 23 11 fr_X8_39_8 rfl sh_23 fx_23_11 dX8_canShare_18 ?_
      refine st_iload_n (i := 2) rfl rfl dX8_canShare_21 ?_
      refine so_iald (v := (mem 33 x2)) 33 rfl sh_33 (by decide) (s2 h1 h2) rfl dX8_canShare_22 (fun r1 => ?_)
      refine st_iconst dX8_canShare_23 ?_
      refine st_iload_n (i := 2) rfl rfl dX8_canShare_24 ?_
      refine st_ishl dX8_canShare_25 ?_
      refine st_ior dX8_canShare_26 ?_
      refine st_iconst dX8_canShare_27 ?_
      refine st_ixor dX8_canShare_28 ?_
      refine st_iand dX8_canShare_29 ?_
      refine sr_if_eq 35 (and32_rng x1 (xor32 (or32 (mem 33 x2) (shl32 1 x2)) (-1))) (by decide) dX8_canShare_30 (fun h3 => ?_) (fun h3 => ?_)
      · have h3 : (and32 x1 (xor32 (or32 (mem 33 x2) (shl32 1 x2)) (-1))) = 0 := by omega
        refine st_iinc (y := (x2 + 1)) (by decide) (i := 2) rfl rfl (lc' := [(2, 23), (0, x1), (0, (x2 + 1))]) rfl dX8_canShare_35 ?_
        refine st_goto 2 (by decide) dX8_canShare_38 ?_
        exact st_locals [(2, 23), (0, x1), (0, (x2 + 1))] ⟨Or.inr rfl, Or.inr rfl, Or.inr rfl, trivial⟩ (k2 h1 h2 h3)
      · have h3 : ¬ (and32 x1 (xor32 (or32 (mem 33 x2) (shl32 1 x2)) (-1))) = 0 := by omega
        refine st_iconst dX8_canShare_33 ?_
        exact st_zreturn rfl (by decide) dX8_canShare_34 (mQ.ret (q2 h1 h2 h3))
theorem cn_X8_fewestPlayers {d : Nat} {P : Int → mmM → Prop} {mem : mmM} (h : mmT bX8_fewestPlayers d 0 0 (mQ 0 P) 0 [(2, 23), (9, 0), (9, 0), (9, 0), (9, 0)] [] mS mem) : con 0 bX8_fewestPlayers d [(2, 23)] mem P := mmC_of [(2, 23), (9, 0), (9, 0), (9, 0), (9, 0)] ok_X8_fewestPlayers.2.2.2.2 rfl (Nat.le_of_ble_eq_true rfl) h
theorem bk_X8_fewestPlayers_0 {d : Nat} {P : Int → mmM → Prop} {mem : mmM}
  (k1 : mmT bX8_fewestPlayers d 0 0 (mQ 0 P) 14 [(2, 23), (0, (actF (mem 23 1) (mem 24))), (0, 1), (9, 0), (9, 0)] [] mS (mset mem 34 0 0))
  (hd2 : 2 ≤ d := by omega)
  (s1 : 0 ≤ (mem 23 1) ∧ (mem 23 1) ≤ 24 := by intros; first | omega | assumption | solve_by_elim)
  : mmT bX8_fewestPlayers d 0 0 (mQ 0 P) 0 [(2, 23), (9, 0), (9, 0), (9, 0), (9, 0)] [] mS mem := by
  refine st_aload_n (i := 0) rfl (t := 0) rfl (by decide) dX8_fewestPlayers_0 ?_
  refine st_callV (kc2 := 0) (ks2 := 0) (av := []) 23 8 mr_X8_81 ok_X8_actors (c_X8_actors mem (s1)) rfl sh_23 ⟨_, rfl, rfl, by decide⟩ rfl rfl hd2 (Nat.le_refl 0) (Nat.le_refl 0) (Nat.le_of_ble_eq_true rfl) dX8_fewestPlayers_1 (mQ.elim fun v1 m1 hp => ?_)
  obtain ⟨hpv, hpm⟩ := hp
  subst hpv
  have hpm := hpm.symm
  subst hpm
  refine st_istore_n (i := 1) rfl (by decide) (lc' := [(2, 23), (0, (actF (mem 23 1) (mem 24))), (9, 0), (9, 0), (9, 0)]) rfl dX8_fewestPlayers_4 ?_
  refine st_aload_n (i := 0) rfl (t := 0) rfl (by decide) dX8_fewestPlayers_5 ?_
  refine so_getA 23 12 fr_X8_42_8 rfl sh_23 fx_23_12 dX8_fewestPlayers_6 ?_
  refine st_iconst dX8_fewestPlayers_9 ?_
  refine st_iconst dX8_fewestPlayers_10 ?_
  refine so_iast 34 fr_34 rfl sh_34 (by decide) ⟨by decide, by decide⟩ ⟨by decide, by decide⟩ dX8_fewestPlayers_11 ?_
  refine st_iconst dX8_fewestPlayers_12 ?_
  refine st_istore_n (i := 2) rfl (by decide) (lc' := [(2, 23), (0, (actF (mem 23 1) (mem 24))), (0, 1), (9, 0), (9, 0)]) rfl dX8_fewestPlayers_13 ?_
  exact st_locals [(2, 23), (0, (actF (mem 23 1) (mem 24))), (0, 1), (9, 0), (9, 0)] ⟨Or.inr rfl, Or.inr rfl, Or.inr rfl, Or.inl rfl, Or.inl rfl, trivial⟩ k1
theorem bk_X8_fewestPlayers_14 {d : Nat} {P : Int → mmM → Prop} {mem : mmM} {x1 x2 : Int}
  (k1 : x2 < 256 → x2 ≤ x1 → (and32 x2 (xor32 x1 (-1))) = 0 → mmT bX8_fewestPlayers d 0 0 (mQ 0 P) 55 [(2, 23), (0, x1), (0, x2), (0, (and32 x2 (-x2))), (0, x2)] [] mS (mset mem 34 x2 8))
  (k2 : x2 < 256 → x2 ≤ x1 → ¬ (and32 x2 (xor32 x1 (-1))) = 0 → mmT bX8_fewestPlayers d 0 0 (mQ 0 P) 14 [(2, 23), (0, x1), (0, (x2 + 1)), (9, 0), (9, 0)] [] mS mem)
  (q1 : 256 ≤ x2 → 256 ≤ x1 → P (-1) mem)
  (q2 : 256 ≤ x2 → x1 < 256 → P (mem 34 x1) mem)
  (q3 : x2 < 256 → x1 < x2 → 256 ≤ x1 → P (-1) mem)
  (q4 : x2 < 256 → x1 < x2 → x1 < 256 → P (mem 34 x1) mem)
  (s1 : R32 x2 := by intros; first | omega | assumption | solve_by_elim)
  (s2 : 256 ≤ x2 → R32 x1 := by intros; first | omega | assumption | solve_by_elim)
  (s3 : 256 ≤ x2 → x1 < 256 → 0 ≤ x1 ∧ x1 < 256 := by intros; first | omega | assumption | solve_by_elim)
  (s4 : x2 < 256 → R32 x1 := by intros; first | omega | assumption | solve_by_elim)
  (s5 : x2 < 256 → x1 < x2 → x1 < 256 → 0 ≤ x1 ∧ x1 < 256 := by intros; first | omega | assumption | solve_by_elim)
  (s6 : x2 < 256 → x2 ≤ x1 → (and32 x2 (xor32 x1 (-1))) = 0 → 0 ≤ x2 ∧ x2 < 256 := by intros; first | omega | assumption | solve_by_elim)
  : mmT bX8_fewestPlayers d 0 0 (mQ 0 P) 14 [(2, 23), (0, x1), (0, x2), (9, 0), (9, 0)] [] mS mem := by
  refine st_iload_n (i := 2) rfl rfl dX8_fewestPlayers_14 ?_
  refine st_aload_n (i := 0) rfl (t := 0) rfl (by decide) dX8_fewestPlayers_15 ?_
  refine so_getA 23 12 fr_X8_42_8 rfl sh_23 fx_23_12 dX8_fewestPlayers_16 ?_
  refine so_alen (v := 256) 34 rfl sh_34 (by decide) rfl dX8_fewestPlayers_19 ?_
  refine sr_icmp_ge 119 s1 ⟨by decide, by decide⟩ (by decide) dX8_fewestPlayers_20 (fun h1 => ?_) (fun h1 => ?_)
  · have h1 : 256 ≤ x2 := by omega
    refine st_iload_n (i := 1) rfl rfl dX8_fewestPlayers_119 ?_
    refine st_aload_n (i := 0) rfl (t := 0) rfl (by decide) dX8_fewestPlayers_120 ?_
    refine so_getA 23 12 fr_X8_42_8 rfl sh_23 fx_23_12 dX8_fewestPlayers_121 ?_
    refine so_alen (v := 256) 34 rfl sh_34 (by decide) rfl dX8_fewestPlayers_124 ?_
    refine sr_icmp_ge 137 (s2 h1) ⟨by decide, by decide⟩ (by decide) dX8_fewestPlayers_125 (fun h2 => ?_) (fun h2 => ?_)
    · have h2 : 256 ≤ x1 := by omega
      refine st_iconst dX8_fewestPlayers_137 ?_
      exact st_ireturn rfl dX8_fewestPlayers_138 (mQ.ret (q1 h1 h2))
    · have h2 : x1 < 256 := by omega
      refine st_aload_n (i := 0) rfl (t := 0) rfl (by decide) dX8_fewestPlayers_128 ?_
      refine so_getA 23 12 fr_X8_42_8 rfl sh_23 fx_23_12 dX8_fewestPlayers_129 ?_
      refine st_iload_n (i := 1) rfl rfl dX8_fewestPlayers_132 ?_
      refine so_iald (v := (mem 34 x1)) 34 rfl sh_34 (by decide) (s3 h1 h2) rfl dX8_fewestPlayers_133 (fun r1 => ?_)
      refine st_goto 138 (by decide) dX8_fewestPlayers_134 ?_
      exact st_ireturn rfl dX8_fewestPlayers_138 (mQ.ret (q2 h1 h2))
  · have h1 : x2 < 256 := by omega
    refine st_iload_n (i := 2) rfl rfl dX8_fewestPlayers_23 ?_
    refine st_iload_n (i := 1) rfl rfl dX8_fewestPlayers_24 ?_
    refine sr_icmp_gt 119 s1 (s4 h1) (by decide) dX8_fewestPlayers_25 (fun h3 => ?_) (fun h3 => ?_)
    · have h3 : x1 < x2 := by omega
      refine st_iload_n (i := 1) rfl rfl dX8_fewestPlayers_119 ?_
      refine st_aload_n (i := 0) rfl (t := 0) rfl (by decide) dX8_fewestPlayers_120 ?_
      refine so_getA 23 12 fr_X8_42_8 rfl sh_23 fx_23_12 dX8_fewestPlayers_121 ?_
      refine so_alen (v := 256) 34 rfl sh_34 (by decide) rfl dX8_fewestPlayers_124 ?_
      refine sr_icmp_ge 137 (s4 h1) ⟨by decide, by decide⟩ (by decide) dX8_fewestPlayers_125 (fun h4 => ?_) (fun h4 => ?_)
      · have h4 : 256 ≤ x1 := by omega
        refine st_iconst dX8_fewestPlayers_137 ?_
        exact st_ireturn rfl dX8_fewestPlayers_138 (mQ.ret (q3 h1 h3 h4))
      · have h4 : x1 < 256 := by omega
        refine st_aload_n (i := 0) rfl (t := 0) rfl (by decide) dX8_fewestPlayers_128 ?_
        refine so_getA 23 12 fr_X8_42_8 rfl sh_23 fx_23_12 dX8_fewestPlayers_129 ?_
        refine st_iload_n (i := 1) rfl rfl dX8_fewestPlayers_132 ?_
        refine so_iald (v := (mem 34 x1)) 34 rfl sh_34 (by decide) (s5 h1 h3 h4) rfl dX8_fewestPlayers_133 (fun r2 => ?_)
        refine st_goto 138 (by decide) dX8_fewestPlayers_134 ?_
        exact st_ireturn rfl dX8_fewestPlayers_138 (mQ.ret (q4 h1 h3 h4))
    · have h3 : x2 ≤ x1 := by omega
      refine st_iload_n (i := 2) rfl rfl dX8_fewestPlayers_28 ?_
      refine st_iload_n (i := 1) rfl rfl dX8_fewestPlayers_29 ?_
      refine st_iconst dX8_fewestPlayers_30 ?_
      refine st_ixor dX8_fewestPlayers_31 ?_
      refine st_iand dX8_fewestPlayers_32 ?_
      refine sr_if_eq 39 (and32_rng x2 (xor32 x1 (-1))) (by decide) dX8_fewestPlayers_33 (fun h5 => ?_) (fun h5 => ?_)
      · have h5 : (and32 x2 (xor32 x1 (-1))) = 0 := by omega
        refine st_aload_n (i := 0) rfl (t := 0) rfl (by decide) dX8_fewestPlayers_39 ?_
        refine so_getA 23 12 fr_X8_42_8 rfl sh_23 fx_23_12 dX8_fewestPlayers_40 ?_
        refine st_iload_n (i := 2) rfl rfl dX8_fewestPlayers_43 ?_
        refine st_bipush rfl dX8_fewestPlayers_44 ?_
        refine so_iast 34 fr_34 rfl sh_34 (by decide) (s6 h1 h3 h5) ⟨by decide, by decide⟩ dX8_fewestPlayers_46 ?_
        refine st_iload_n (i := 2) rfl rfl dX8_fewestPlayers_47 ?_
        refine st_iload_n (i := 2) rfl rfl dX8_fewestPlayers_48 ?_
        refine st_ineg dX8_fewestPlayers_49 ?_
        refine st_iand dX8_fewestPlayers_50 ?_
        refine st_istore_n (i := 3) rfl (by decide) (lc' := [(2, 23), (0, x1), (0, x2), (0, (and32 x2 (-x2))), (9, 0)]) rfl dX8_fewestPlayers_51 ?_
        refine st_iload_n (i := 2) rfl rfl dX8_fewestPlayers_52 ?_
        refine st_istore (by decide) (lc' := [(2, 23), (0, x1), (0, x2), (0, (and32 x2 (-x2))), (0, x2)]) rfl dX8_fewestPlayers_53 ?_
        exact st_locals [(2, 23), (0, x1), (0, x2), (0, (and32 x2 (-x2))), (0, x2)] ⟨Or.inr rfl, Or.inr rfl, Or.inr rfl, Or.inr rfl, Or.inr rfl, trivial⟩ (k1 h1 h3 h5)
      · have h5 : ¬ (and32 x2 (xor32 x1 (-1))) = 0 := by omega
        refine st_goto 113 (by decide) dX8_fewestPlayers_36 ?_
        refine st_iinc (y := (x2 + 1)) (by decide) (i := 2) rfl rfl (lc' := [(2, 23), (0, x1), (0, (x2 + 1)), (9, 0), (9, 0)]) rfl dX8_fewestPlayers_113 ?_
        refine st_goto 14 (by decide) dX8_fewestPlayers_116 ?_
        exact st_locals [(2, 23), (0, x1), (0, (x2 + 1)), (9, 0), (9, 0)] ⟨Or.inr rfl, Or.inr rfl, Or.inr rfl, Or.inl rfl, Or.inl rfl, trivial⟩ (k2 h1 h3 h5)
theorem bk_X8_fewestPlayers_55 {d : Nat} {d1 : Nat} {P1 : Int → mmM → Prop} {P : Int → mmM → Prop} {mem : mmM} {x1 x2 x3 x4 : Int}
  (c1 : 0 < x4 → ¬ (and32 x4 x3) = 0 → con 0 bX8_canShare d1 [(2, 23), (0, x4)] mem P1)
  (k1 : x4 ≤ 0 → mmT bX8_fewestPlayers d 0 0 (mQ 0 P) 14 [(2, 23), (0, x1), (0, (x2 + 1)), (9, 0), (9, 0)] [] mS mem)
  (k2 : 0 < x4 → (and32 x4 x3) = 0 → mmT bX8_fewestPlayers d 0 0 (mQ 0 P) 55 [(2, 23), (0, x1), (0, x2), (0, x3), (0, (and32 (x4 - 1) x2))] [] mS mem)
  (k3 : 0 < x4 → ¬ (and32 x4 x3) = 0 → ∀ (v1 : Int), ∀ (m1 : mmM), P1 v1 m1 → v1 = 0 → mmT bX8_fewestPlayers d 0 0 (mQ 0 P) 55 [(2, 23), (0, x1), (0, x2), (0, x3), (0, (and32 (x4 - 1) x2))] [] mS m1)
  (k4 : 0 < x4 → ¬ (and32 x4 x3) = 0 → ∀ (v1 : Int), ∀ (m1 : mmM), P1 v1 m1 → ¬ v1 = 0 → mmT bX8_fewestPlayers d 0 0 (mQ 0 P) 55 [(2, 23), (0, x1), (0, x2), (0, x3), (0, (and32 (x4 - 1) x2))] [] mS (mset m1 34 x2 (min (m1 34 x2) ((m1 34 (xor32 x2 x4)) + 1))))
  (hd_d1 : d1 + 1 ≤ d := by omega)
  (hd1 : 1 ≤ d := by omega)
  (s1 : R32 x4 := by intros; first | omega | assumption | solve_by_elim)
  (s2 : 0 < x4 → ¬ (and32 x4 x3) = 0 → ∀ (v1 : Int), ∀ (m1 : mmM), P1 v1 m1 → R32 v1 := by intros; first | omega | assumption | solve_by_elim)
  (s3 : 0 < x4 → ¬ (and32 x4 x3) = 0 → ∀ (v1 : Int), ∀ (m1 : mmM), P1 v1 m1 → ¬ v1 = 0 → 0 ≤ x2 ∧ x2 < 256 := by intros; first | omega | assumption | solve_by_elim)
  (s4 : 0 < x4 → ¬ (and32 x4 x3) = 0 → ∀ (v1 : Int), ∀ (m1 : mmM), P1 v1 m1 → ¬ v1 = 0 → 0 ≤ (xor32 x2 x4) ∧ (xor32 x2 x4) < 256 := by intros; first | omega | assumption | solve_by_elim)
  (s5 : 0 < x4 → ¬ (and32 x4 x3) = 0 → ∀ (v1 : Int), ∀ (m1 : mmM), P1 v1 m1 → ¬ v1 = 0 → R32 ((m1 34 (xor32 x2 x4)) + 1) := by intros; first | omega | assumption | solve_by_elim)
  : mmT bX8_fewestPlayers d 0 0 (mQ 0 P) 55 [(2, 23), (0, x1), (0, x2), (0, x3), (0, x4)] [] mS mem := by
  refine st_iload rfl dX8_fewestPlayers_55 ?_
  refine sr_if_le 113 s1 (by decide) dX8_fewestPlayers_57 (fun h1 => ?_) (fun h1 => ?_)
  · have h1 : x4 ≤ 0 := by omega
    refine st_iinc (y := (x2 + 1)) (by decide) (i := 2) rfl rfl (lc' := [(2, 23), (0, x1), (0, (x2 + 1)), (0, x3), (0, x4)]) rfl dX8_fewestPlayers_113 ?_
    refine st_goto 14 (by decide) dX8_fewestPlayers_116 ?_
    exact st_locals [(2, 23), (0, x1), (0, (x2 + 1)), (9, 0), (9, 0)] ⟨Or.inr rfl, Or.inr rfl, Or.inr rfl, Or.inl rfl, Or.inl rfl, trivial⟩ (k1 h1)
  · have h1 : 0 < x4 := by omega
    refine st_iload rfl dX8_fewestPlayers_60 ?_
    refine st_iload_n (i := 3) rfl rfl dX8_fewestPlayers_62 ?_
    refine st_iand dX8_fewestPlayers_63 ?_
    refine sr_if_eq 102 (and32_rng x4 x3) (by decide) dX8_fewestPlayers_64 (fun h2 => ?_) (fun h2 => ?_)
    · have h2 : (and32 x4 x3) = 0 := by omega
      refine st_iload rfl dX8_fewestPlayers_102 ?_
      refine st_iconst dX8_fewestPlayers_104 ?_
      refine st_isub dX8_fewestPlayers_105 ?_
      refine st_iload_n (i := 2) rfl rfl dX8_fewestPlayers_106 ?_
      refine st_iand dX8_fewestPlayers_107 ?_
      refine st_istore (by decide) (lc' := [(2, 23), (0, x1), (0, x2), (0, x3), (0, (and32 (x4 - 1) x2))]) rfl dX8_fewestPlayers_108 ?_
      refine st_goto 55 (by decide) dX8_fewestPlayers_110 ?_
      exact st_locals [(2, 23), (0, x1), (0, x2), (0, x3), (0, (and32 (x4 - 1) x2))] ⟨Or.inr rfl, Or.inr rfl, Or.inr rfl, Or.inr rfl, Or.inr rfl, trivial⟩ (k2 h1 h2)
    · have h2 : ¬ (and32 x4 x3) = 0 := by omega
      refine st_aload_n (i := 0) rfl (t := 0) rfl (by decide) dX8_fewestPlayers_67 ?_
      refine st_iload rfl dX8_fewestPlayers_68 ?_
      refine st_callV (kc2 := 0) (ks2 := 0) (av := [(0, x4)]) 23 8 mr_X8_104 ok_X8_canShare (c1 h1 h2) rfl sh_23 ⟨_, rfl, rfl, by decide⟩ rfl rfl hd_d1 (Nat.le_refl 0) (Nat.le_refl 0) (Nat.le_of_ble_eq_true rfl) dX8_fewestPlayers_70 (mQ.elim fun v1 m1 p1 => ?_)
      refine sr_if_eq 102 (s2 h1 h2 v1 m1 p1) (by decide) dX8_fewestPlayers_73 (fun h3 => ?_) (fun h3 => ?_)
      · have h3 : v1 = 0 := by omega
        refine st_iload rfl dX8_fewestPlayers_102 ?_
        refine st_iconst dX8_fewestPlayers_104 ?_
        refine st_isub dX8_fewestPlayers_105 ?_
        refine st_iload_n (i := 2) rfl rfl dX8_fewestPlayers_106 ?_
        refine st_iand dX8_fewestPlayers_107 ?_
        refine st_istore (by decide) (lc' := [(2, 23), (0, x1), (0, x2), (0, x3), (0, (and32 (x4 - 1) x2))]) rfl dX8_fewestPlayers_108 ?_
        refine st_goto 55 (by decide) dX8_fewestPlayers_110 ?_
        exact st_locals [(2, 23), (0, x1), (0, x2), (0, x3), (0, (and32 (x4 - 1) x2))] ⟨Or.inr rfl, Or.inr rfl, Or.inr rfl, Or.inr rfl, Or.inr rfl, trivial⟩ (k3 h1 h2 v1 m1 p1 h3)
      · have h3 : ¬ v1 = 0 := by omega
        refine st_aload_n (i := 0) rfl (t := 0) rfl (by decide) dX8_fewestPlayers_76 ?_
        refine so_getA 23 12 fr_X8_42_8 rfl sh_23 fx_23_12 dX8_fewestPlayers_77 ?_
        refine st_iload_n (i := 2) rfl rfl dX8_fewestPlayers_80 ?_
        refine st_aload_n (i := 0) rfl (t := 0) rfl (by decide) dX8_fewestPlayers_81 ?_
        refine so_getA 23 12 fr_X8_42_8 rfl sh_23 fx_23_12 dX8_fewestPlayers_82 ?_
        refine st_iload_n (i := 2) rfl rfl dX8_fewestPlayers_85 ?_
        refine so_iald (v := (m1 34 x2)) 34 rfl sh_34 (by decide) (s3 h1 h2 v1 m1 p1 h3) rfl dX8_fewestPlayers_86 (fun r1 => ?_)
        refine st_aload_n (i := 0) rfl (t := 0) rfl (by decide) dX8_fewestPlayers_87 ?_
        refine so_getA 23 12 fr_X8_42_8 rfl sh_23 fx_23_12 dX8_fewestPlayers_88 ?_
        refine st_iload_n (i := 2) rfl rfl dX8_fewestPlayers_91 ?_
        refine st_iload rfl dX8_fewestPlayers_92 ?_
        refine st_ixor dX8_fewestPlayers_94 ?_
        refine so_iald (v := (m1 34 (xor32 x2 x4))) 34 rfl sh_34 (by decide) (s4 h1 h2 v1 m1 p1 h3) rfl dX8_fewestPlayers_95 (fun r2 => ?_)
        refine st_iconst dX8_fewestPlayers_96 ?_
        refine st_iadd dX8_fewestPlayers_97 ?_
        refine sr_mmin r1 (s5 h1 h2 v1 m1 p1 h3) mr_X8_51 ms_mini mi_Math mc_mini hd1 (Nat.le_of_ble_eq_true rfl) dX8_fewestPlayers_98 ?_
        refine so_iast 34 fr_34 rfl sh_34 (by decide) (s3 h1 h2 v1 m1 p1 h3) (imin32_rng r1 (s5 h1 h2 v1 m1 p1 h3)) dX8_fewestPlayers_101 ?_
        refine st_iload rfl dX8_fewestPlayers_102 ?_
        refine st_iconst dX8_fewestPlayers_104 ?_
        refine st_isub dX8_fewestPlayers_105 ?_
        refine st_iload_n (i := 2) rfl rfl dX8_fewestPlayers_106 ?_
        refine st_iand dX8_fewestPlayers_107 ?_
        refine st_istore (by decide) (lc' := [(2, 23), (0, x1), (0, x2), (0, x3), (0, (and32 (x4 - 1) x2))]) rfl dX8_fewestPlayers_108 ?_
        refine st_goto 55 (by decide) dX8_fewestPlayers_110 ?_
        exact st_locals [(2, 23), (0, x1), (0, x2), (0, x3), (0, (and32 (x4 - 1) x2))] ⟨Or.inr rfl, Or.inr rfl, Or.inr rfl, Or.inr rfl, Or.inr rfl, trivial⟩ (k4 h1 h2 v1 m1 p1 h3)
theorem c_X8_findSharers (mem : mmM) (x1 : Int) (h1 : 1 ≤ x1 ∧ x1 ≤ 24) (hn : 0 ≤ mem 23 1 ∧ mem 23 1 ≤ 24) (ha : ∀ i, 0 ≤ i → i < mem 23 1 → 0 ≤ mem 24 i ∧ mem 24 i < 8) : conv bX8_findSharers 2 [(2, 23), (0, x1)] mem (fun m => plFr mem m ∧ shrQ (mem 23 1) (mem 24) x1 (nearP (mem 23 1) (mem 24) x1) m) := by
  have at' := actF_tb hn.1 ha
  refine cn_X8_findSharers (bk_X8_findSharers_0 ?_)
  generalize hall : actF (mem 23 1) (mem 24) = all at at'
  have pairs : ∀ (i : Int), 0 ≤ i → i ≤ mem 23 1 → ∀ m : mmM, plFr mem m → shrQ (mem 23 1) (mem 24) x1 (nearQ (mem 24) x1 i 0) m → mmT bX8_findSharers 2 0 0 (mQv (fun m => plFr mem m ∧ shrQ (mem 23 1) (mem 24) x1 (nearP (mem 23 1) (mem 24) x1) m)) 46 [(2, 23), (0, x1), (9, 0), (0, i), (9, 0)] [] mS m := by
    refine loop_up (n := mem 23 1) (fun i => ∀ m : mmM, plFr mem m → shrQ (mem 23 1) (mem 24) x1 (nearQ (mem 24) x1 i 0) m → mmT bX8_findSharers 2 0 0 (mQv (fun m => plFr mem m ∧ shrQ (mem 23 1) (mem 24) x1 (nearP (mem 23 1) (mem 24) x1) m)) 46 [(2, 23), (0, x1), (9, 0), (0, i), (9, 0)] [] mS m) (fun i i0 i1 ih m f q => ?_)
    have e23 : m 23 = mem 23 := f 23 (by decide) (by decide)
    refine bk_X8_findSharers_46 (fun g => ?_) (fun g => ⟨f, ?_⟩)
    · rw [e23] at g
      refine loop_up (n := i) (fun j => ∀ m : mmM, plFr mem m → shrQ (mem 23 1) (mem 24) x1 (nearQ (mem 24) x1 i j) m → mmT bX8_findSharers 2 0 0 (mQv (fun m => plFr mem m ∧ shrQ (mem 23 1) (mem 24) x1 (nearP (mem 23 1) (mem 24) x1) m)) 57 [(2, 23), (0, x1), (9, 0), (0, i), (0, j)] [] mS m) (fun j j0 j1 ihj m f q => ?_) 0 (by omega) i0 m f q
      have e24 : m 24 = mem 24 := f 24 (by decide) (by decide)
      have ai := ha i i0 g
      have aj : j < i → _ := fun z => ha j j0 (by omega)
      refine bk_X8_findSharers_57 (fun g2 => ih g m f ?_) (fun g2 g3 => ihj g2 m f ?_) (fun g2 g3 g4 => ihj g2 m f ?_) (fun g2 g3 g4 => ihj g2 _ (fun a a1 a2 => by rw [mset_ne a1, mset_ne a1]; exact f a a1 a2) ?_) (s7 := fun _ _ _ => by rw [e24]; exact ai) (s8 := fun z _ _ => by rw [e24]; exact aj z)
      · intro a a0 a1
        refine ⟨(q a a0 a1).1, fun b b0 => ?_⟩
        rw [(q a a0 a1).2 b b0, nearQ_row (i := i) (j := j) g2]
      · intro a a0 a1
        refine ⟨(q a a0 a1).1, fun b b0 => ?_⟩
        rw [(q a a0 a1).2 b b0, nearQ_next ⟨j0, g2⟩]
        constructor
        · rintro ⟨c1, c2, c3, c4⟩
          exact ⟨c1, c2, c3, fun z => z.elim c4 (fun z => by omega)⟩
        · rintro ⟨c1, c2, c3, c4⟩
          exact ⟨c1, c2, c3, fun z => c4 (Or.inl z)⟩
      · rw [e24] at g4
        intro a a0 a1
        refine ⟨(q a a0 a1).1, fun b b0 => ?_⟩
        rw [(q a a0 a1).2 b b0, nearQ_next ⟨j0, g2⟩]
        constructor
        · rintro ⟨c1, c2, c3, c4⟩
          exact ⟨c1, c2, c3, fun z => z.elim c4 (fun z => by rcases z.2 with z | z <;> omega)⟩
        · rintro ⟨c1, c2, c3, c4⟩
          exact ⟨c1, c2, c3, fun z => c4 (Or.inl z)⟩
      · rw [e24] at g4 ⊢
        have aj' := aj g2
        have s1 := shl1_eq (k := mem 24 i) ai.1 (by omega)
        have s2 := shl1_eq (k := mem 24 j) aj'.1 (by omega)
        have p1 := p2_pos (mem 24 i)
        have p1' := p2_lt (i := mem 24 i) (j := 8) ai.1 ai.2
        have pj := p2_pos (mem 24 j)
        have pj' := p2_lt (i := mem 24 j) (j := 8) aj'.1 aj'.2
        have e8 := e256
        have qi := q (mem 24 i) ai.1 ai.2
        have qj := q (mem 24 j) aj'.1 aj'.2
        have t1 := andnot_tb (x := m 33 (mem 24 i)) (y := p2 (mem 24 j)) (b := 8) qi.1.1 (by omega) (by omega) (by omega) (by decide)
        have t2 := andnot_tb (x := m 33 (mem 24 j)) (y := p2 (mem 24 i)) (b := 8) qj.1.1 (by omega) (by omega) (by omega) (by decide)
        have r33 : ∀ a, mset (mset m 33 (mem 24 i) (and32 (m 33 (mem 24 i)) (xor32 (shl32 1 (mem 24 j)) (-1)))) 33 (mem 24 j) (and32 (mset m 33 (mem 24 i) (and32 (m 33 (mem 24 i)) (xor32 (shl32 1 (mem 24 j)) (-1))) 33 (mem 24 j)) (xor32 (shl32 1 (mem 24 i)) (-1))) 33 a = if a = mem 24 j then and32 (m 33 (mem 24 j)) (xor32 (p2 (mem 24 i)) (-1)) else if a = mem 24 i then and32 (m 33 (mem 24 i)) (xor32 (p2 (mem 24 j)) (-1)) else m 33 a := by
          intro a
          rw [mset_at, mset_at, mset_at, if_neg (Ne.symm g4), s1, s2]
        intro a a0 a1
        rw [r33]
        by_cases c1 : a = mem 24 j
        · rw [if_pos c1]
          refine ⟨by omega, fun b b0 => ?_⟩
          rw [t2.2, tb_p2 ai.1 b0, Bool.and_eq_true, qj.2 b b0, nearQ_next ⟨j0, g2⟩, c1]
          constructor
          · rintro ⟨⟨d1, d2, d3, d4⟩, d5⟩
            refine ⟨d1, d2, d3, fun z => z.elim d4 (fun z => ?_)⟩
            rcases z.2 with z | z
            · omega
            · rw [z.1] at d5
              simp at d5
          · rintro ⟨d1, d2, d3, d4⟩
            refine ⟨⟨d1, d2, d3, fun z => d4 (Or.inl z)⟩, ?_⟩
            rw [Bool.not_eq_true', decide_eq_false_iff_not]
            exact fun z => d4 (Or.inr ⟨g3, Or.inr ⟨z, rfl⟩⟩)
        · rw [if_neg c1]
          by_cases c2 : a = mem 24 i
          · rw [if_pos c2]
            refine ⟨by omega, fun b b0 => ?_⟩
            rw [t1.2, tb_p2 aj'.1 b0, Bool.and_eq_true, qi.2 b b0, nearQ_next ⟨j0, g2⟩, c2]
            constructor
            · rintro ⟨⟨d1, d2, d3, d4⟩, d5⟩
              refine ⟨d1, d2, d3, fun z => z.elim d4 (fun z => ?_)⟩
              rcases z.2 with z | z
              · rw [z.2] at d5
                simp at d5
              · omega
            · rintro ⟨d1, d2, d3, d4⟩
              refine ⟨⟨d1, d2, d3, fun z => d4 (Or.inl z)⟩, ?_⟩
              rw [Bool.not_eq_true', decide_eq_false_iff_not]
              exact fun z => d4 (Or.inr ⟨g3, Or.inl ⟨rfl, z⟩⟩)
          · rw [if_neg c2]
            refine ⟨(q a a0 a1).1, fun b b0 => ?_⟩
            rw [(q a a0 a1).2 b b0, nearQ_next ⟨j0, g2⟩]
            constructor
            · rintro ⟨d1, d2, d3, d4⟩
              exact ⟨d1, d2, d3, fun z => z.elim d4 (fun z => by rcases z.2 with z | z <;> omega)⟩
            · rintro ⟨d1, d2, d3, d4⟩
              exact ⟨d1, d2, d3, fun z => d4 (Or.inl z)⟩
    · rw [e23] at g
      intro a a0 a1
      refine ⟨(q a a0 a1).1, fun b b0 => ?_⟩
      rw [(q a a0 a1).2 b b0, show i = mem 23 1 by omega]
      constructor
      · rintro ⟨d1, d2, d3, d4⟩
        exact ⟨d1, d2, d3, fun z => d4 ((nearQ_all d3 h1.1).mpr z)⟩
      · rintro ⟨d1, d2, d3, d4⟩
        exact ⟨d1, d2, d3, fun z => d4 ((nearQ_all d3 h1.1).mp z)⟩
  refine loop_up (n := 8) (fun i => ∀ m : mmM, plFr mem m → (∀ a, 0 ≤ a → a < i → (0 ≤ m 33 a ∧ m 33 a < 256) ∧ ∀ b, 0 ≤ b → (tb (m 33 a) b = true ↔ (tb all a = true ∧ tb all b = true ∧ ¬ a = b))) → mmT bX8_findSharers 2 0 0 (mQv (fun m => plFr mem m ∧ shrQ (mem 23 1) (mem 24) x1 (nearP (mem 23 1) (mem 24) x1) m)) 7 [(2, 23), (0, x1), (0, all), (0, i), (9, 0)] [] mS m) (fun i i0 i1 ih m f q => ?_) 0 (by omega) (by omega) mem (fun _ _ _ => rfl) (fun a a0 a1 => by omega)
  have bt := bit_tb (x := all) (k := i) at'.1.1 (by omega) i0 (by omega)
  have b01 := and1_01 (shr32 all i)
  have e8 := e256
  refine bk_X8_findSharers_7 (fun g => pairs 0 (by omega) hn.1 m f (fun a a0 a1 => ⟨(q a a0 (by omega)).1, fun b b0 => ?_⟩)) (fun g g2 => ih g _ (fun a a1 a2 => by rw [mset_ne a1]; exact f a a1 a2) (fun a a0 a1 => ?_)) (fun g g2 => ih g _ (fun a a1 a2 => by rw [mset_ne a1]; exact f a a1 a2) (fun a a0 a1 => ?_))
  · rw [(q a a0 (by omega)).2 b b0, hall]
    constructor
    · rintro ⟨d1, d2, d3⟩
      exact ⟨d1, d2, d3, fun ⟨s, o, z0, z1, z2, _⟩ => by omega⟩
    · rintro ⟨d1, d2, d3, -⟩
      exact ⟨d1, d2, d3⟩
  · rw [mset_at]
    split
    · rename_i e
      have s1 := shl1_eq (k := i) i0 (by omega)
      have p1 := p2_pos i
      have p1' := p2_lt (i := i) (j := 8) i0 (by omega)
      have t := andnot_tb (x := all) (y := p2 i) (b := 8) at'.1.1 (by omega) (by omega) (by omega) (by decide)
      rw [s1]
      refine ⟨by omega, fun b b0 => ?_⟩
      rw [t.2, tb_p2 i0 b0, Bool.and_eq_true, Bool.not_eq_true', decide_eq_false_iff_not, e]
      constructor
      · rintro ⟨d1, d2⟩
        exact ⟨bt.mp (by omega), d1, d2⟩
      · rintro ⟨d1, d2, d3⟩
        exact ⟨d2, d3⟩
    · exact q a a0 (by omega)
  · rw [mset_at]
    split
    · rename_i e
      refine ⟨by omega, fun b b0 => ?_⟩
      rw [tb_0, e]
      constructor
      · intro z
        cases z
      · rintro ⟨d1, -⟩
        have := bt.mpr d1
        omega
    · exact q a a0 (by omega)
theorem c_X8_canShare (mem : mmM) (x1 : Int) (n nr : Int) (ac : Int → Int) (h1 : 0 ≤ x1 ∧ x1 < 256) (hs : shrQ n ac nr (nearP n ac nr) mem) (hall : 0 ≤ actF n ac ∧ actF n ac < 256) (hsub : ∀ j, 0 ≤ j → tb x1 j = true → tb (actF n ac) j = true) : con 0 bX8_canShare 1 [(2, 23), (0, x1)] mem (fun v m => v = (if pB (shareP n ac nr x1) = true then 1 else 0) ∧ m = mem) := by
  refine cn_X8_canShare (bk_X8_canShare_0 ?_)
  have e8 := e256
  refine loop_up (n := 8) (fun i => (∀ a b, 0 ≤ a → a < i → (0 ≤ b ∧ b < 8) → ¬ a = b → tb x1 a = true → tb x1 b = true → ¬ nearP n ac nr a b) → mmT bX8_canShare 1 0 0 (mQ 0 (fun v m => v = (if pB (shareP n ac nr x1) = true then 1 else 0) ∧ m = mem)) 2 [(2, 23), (0, x1), (0, i)] [] mS mem) (fun i i0 i1 ih hno => ?_) 0 (by omega) (by omega) (fun a b a0 a1 => by omega)
  have bt := bit_tb (x := x1) (k := i) h1.1 (by omega) i0 (by omega)
  have b01 := and1_01 (shr32 x1 i)
  have test : i < 8 → tb x1 i = true → (and32 x1 (xor32 (or32 (mem 33 i) (shl32 1 i)) (-1)) = 0 ↔ ∀ b, (0 ≤ b ∧ b < 8) → ¬ i = b → tb x1 b = true → ¬ nearP n ac nr i b) := by
    intro g ti
    have q := hs i i0 g
    have s1 := shl1_eq (k := i) i0 (by omega)
    have p1 := p2_pos i
    have p1' := p2_lt (i := i) (j := 8) i0 g
    rw [s1]
    have o := or32_b (x := mem 33 i) (y := p2 i) (b := 8) q.1.1 (by omega) (by omega) (by omega) (by decide)
    have t := andnot_tb (x := x1) (y := or32 (mem 33 i) (p2 i)) (b := 8) h1.1 (by omega) o.1.1 o.1.2 (by decide)
    constructor
    · intro z b hb hib tb'
      have : tb (and32 x1 (xor32 (or32 (mem 33 i) (p2 i)) (-1))) b = false := by rw [z]; exact tb_0 b
      rw [t.2, o.2, tb_p2 i0 hb.1, tb', decide_eq_false hib] at this
      simp at this
      exact ((q.2 b hb.1).mp this).2.2.2
    · intro z
      refine tb_ext t.1.1 (Int.le_refl 0) (fun j j0 => ?_)
      rw [t.2, o.2, tb_p2 i0 j0, tb_0]
      by_cases c : tb x1 j = true
      · by_cases d : i = j
        · rw [decide_eq_true d]
          simp
        · by_cases d8 : j < 8
          · have := (q.2 j j0).mpr ⟨hsub i i0 ti, hsub j j0 c, d, z j ⟨j0, d8⟩ d c⟩
            rw [this]
            simp
          · have := tb_big (x := x1) (b := 8) (j := j) h1.1 (by omega) (by omega)
            rw [this] at c
            cases c
      · have : tb x1 j = false := by simpa using c
        rw [this]
        rfl
  refine bk_X8_canShare_2 (fun g g2 => ih g (fun a b a0 a1 hb hab ta tb' => ?_)) (fun g g2 g3 => ih g (fun a b a0 a1 hb hab ta tb' => ?_)) (fun g => ⟨?_, rfl⟩) (fun g g2 g3 => ⟨?_, rfl⟩)
  · by_cases e : a = i
    · rw [e] at ta
      have := bt.mpr ta
      omega
    · exact hno a b a0 (by omega) hb hab ta tb'
  · by_cases e : a = i
    · rw [e] at hab ⊢
      exact (test g (bt.mp (by omega))).mp g3 b hb hab tb'
    · exact hno a b a0 (by omega) hb hab ta tb'
  · have y : shareP n ac nr x1 := fun a b ha hb hab ta tb' => hno a b ha.1 (by omega) hb hab ta tb'
    rw [if_pos (pB_iff.mpr y)]
  · rw [pB_no, if_neg (by decide)]
    intro z
    refine g3 ((test g (bt.mp (by omega))).mpr (fun b hb hib tb' => z i b ⟨i0, g⟩ hb hib (bt.mp (by omega)) tb'))
