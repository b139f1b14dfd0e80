/-! a book taken: the rows of the play -/
theorem gapF_congr {a a' : Int → Int} {s : Int} (s0 : 0 ≤ s) (h : ∀ i, 0 ≤ i → i ≤ s → a i = a' i) : gapF a s = gapF a' s := by
  have e : dnTo (fun i => decide (a i = a s)) s.toNat = dnTo (fun i => decide (a' i = a' s)) s.toNat := dnTo_congr (fun i i0 i1 => by
    rw [h i i0 (by omega), h s s0 (Int.le_refl _)])
  unfold gapF
  rw [e]
theorem cueF_congr {w w' : Int → Int} {n s : Int} (h : ∀ i, 0 ≤ i → i < n → w i = w' i) (s0 : 0 ≤ s) (s1 : s ≤ n) : cueF w s = cueF w' s := by
  unfold cueF
  by_cases q : s = 0
  · rw [if_pos q, if_pos q]
  · rw [if_neg q, if_neg q, h _ (by omega) (by omega)]
theorem likeF_congr {n : Int} {a a' c c' : Int → Int} (ha : ∀ i, 0 ≤ i → i < n → a i = a' i) (hc : ∀ i, 0 ≤ i → i < n → c i = c' i) (i j : Int) : likeF n a c i j ↔ likeF n a' c' i j := by
  constructor
  · rintro ⟨h1, h2, h3, h4, h5, h6⟩
    refine ⟨h1, h2, h3, ?_, ?_, ?_⟩
    · rw [← ha i h1.1 h1.2, ← ha j h2.1 h2.2]
      exact h4
    · rw [← hc i h1.1 h1.2, ← hc j h2.1 h2.2]
      exact h5
    · rw [← hc i h1.1 h1.2]
      exact h6
  · rintro ⟨h1, h2, h3, h4, h5, h6⟩
    refine ⟨h1, h2, h3, ?_, ?_, ?_⟩
    · rw [ha i h1.1 h1.2, ha j h2.1 h2.2]
      exact h4
    · rw [hc i h1.1 h1.2, hc j h2.1 h2.2]
      exact h5
    · rw [hc i h1.1 h1.2]
      exact h6
theorem b2i_iff {p q : Prop} [Decidable p] [Decidable q] (h : p ↔ q) : b2i p = b2i q := by
  by_cases z : p
  · rw [b2i_1 z, b2i_1 (h.mp z)]
  · rw [b2i_0 z, b2i_0 (fun y => z (h.mpr y))]
theorem dec_iff {p q : Prop} [Decidable p] [Decidable q] (h : p ↔ q) : decide p = decide q := by
  by_cases z : p
  · rw [decide_eq_true z, decide_eq_true (h.mp z)]
  · rw [decide_eq_false z, decide_eq_false (fun y => z (h.mpr y))]
theorem likesF_congr {n : Int} {a a' c c' : Int → Int} (ha : ∀ i, 0 ≤ i → i < n → a i = a' i) (hc : ∀ i, 0 ≤ i → i < n → c i = c' i) (s : Int) : likesF n a c s = likesF n a' c' s := sumTo_congr (fun i _ _ => b2i_iff (likeF_congr ha hc i s))
theorem aheadF_congr {n : Int} {a a' c c' : Int → Int} (ha : ∀ i, 0 ≤ i → i < n → a i = a' i) (hc : ∀ i, 0 ≤ i → i < n → c i = c' i) (s : Int) : aheadF n a c s = aheadF n a' c' s := dnTo_congr (fun i _ _ => dec_iff (likeF_congr ha hc i s))
theorem behindF_congr {n : Int} {a a' c c' : Int → Int} (ha : ∀ i, 0 ≤ i → i < n → a i = a' i) (hc : ∀ i, 0 ≤ i → i < n → c i = c' i) (s : Int) : behindF n a c s = behindF n a' c' s := upFrom_congr (fun i _ _ => dec_iff (likeF_congr ha hc i s))
theorem leapF_congr {kd n : Int} {a a' c c' : Int → Int} (ha : ∀ i, 0 ≤ i → i < n → a i = a' i) (hc : ∀ i, 0 ≤ i → i < n → c i = c' i) (s : Int) : leapF kd n a c s = leapF kd n a' c' s := by
  unfold leapF
  rw [aheadF_congr ha hc s, behindF_congr ha hc s]
/-- how many of the first i are kept, and where the kept ones stood -/
def keptS (K : Int → Int) : Nat → Int × (Int → Int)
  | 0 => (0, fun _ => 0)
  | i + 1 => if K i = 0 then ((keptS K i).1 + 1, updF (keptS K i).2 (keptS K i).1 i) else keptS K i
theorem keptS_yes {K : Int → Int} {i : Nat} (h : K i = 0) : keptS K (i + 1) = ((keptS K i).1 + 1, updF (keptS K i).2 (keptS K i).1 i) := if_pos h
theorem keptS_no {K : Int → Int} {i : Nat} (h : ¬ K i = 0) : keptS K (i + 1) = keptS K i := if_neg h
theorem keptS_congr {K K' : Int → Int} {n : Nat} (h : ∀ i : Int, 0 ≤ i → i < n → (K i = 0 ↔ K' i = 0)) : keptS K n = keptS K' n := by
  induction n with
  | zero => rfl
  | succ n ih =>
    have e := ih (fun i i0 i1 => h i i0 (by omega))
    have hn := h n (by omega) (by omega)
    by_cases q : K n = 0
    · rw [keptS_yes q, keptS_yes (hn.mp q), e]
    · rw [keptS_no q, keptS_no (fun z => q (hn.mpr z)), e]
theorem keptS_rng (K : Int → Int) (i : Nat) : 0 ≤ (keptS K i).1 ∧ (keptS K i).1 ≤ i := by
  induction i with
  | zero => exact ⟨Int.le_refl _, Int.le_refl _⟩
  | succ i ih =>
    by_cases q : K i = 0
    · rw [keptS_yes q]
      show 0 ≤ (keptS K i).1 + 1 ∧ (keptS K i).1 + 1 ≤ ((i + 1 : Nat) : Int)
      omega
    · rw [keptS_no q]
      omega
theorem keptS_place (K : Int → Int) (i : Nat) : ∀ k, 0 ≤ k → k < (keptS K i).1 → 0 ≤ (keptS K i).2 k ∧ (keptS K i).2 k < i := by
  induction i with
  | zero =>
    intro k k0 k1
    have : (keptS K 0).1 = 0 := rfl
    omega
  | succ i ih =>
    intro k k0 k1
    by_cases q : K i = 0
    · rw [keptS_yes q] at k1 ⊢
      show 0 ≤ updF (keptS K i).2 (keptS K i).1 i k ∧ updF (keptS K i).2 (keptS K i).1 i k < ((i + 1 : Nat) : Int)
      unfold updF
      split
      · omega
      · rename_i ne
        have k1' : k < (keptS K i).1 + 1 := k1
        have := ih k k0 (by omega)
        omega
    · rw [keptS_no q] at k1 ⊢
      have := ih k k0 k1
      omega
/-- the rows of a play: the kept ones of the read rows -/
def keptP (n : Int) (pl A W L : Int → Int) (a w l p : Int → Int) : Prop := ∀ k, 0 ≤ k → k < n → a k = A (pl k) ∧ w k = W (pl k) ∧ l k = L (pl k) ∧ p k = pl k
theorem keptP_upd {n : Int} {pl A W L a w l p a' w' l' p' : Int → Int} {i : Int} (h : keptP n pl A W L a w l p) (ha : a' = updF a n (A i)) (hw : w' = updF w n (W i)) (hl : l' = updF l n (L i)) (hp : p' = updF p n i) : keptP (n + 1) (updF pl n i) A W L a' w' l' p' := by
  subst ha hw hl hp
  intro k k0 k1
  unfold updF
  by_cases q : k = n
  · rw [if_pos q, if_pos q, if_pos q, if_pos q, if_pos q]
    exact ⟨rfl, rfl, rfl, rfl⟩
  · rw [if_neg q, if_neg q, if_neg q, if_neg q, if_neg q]
    exact h k k0 (by omega)
def putI (mem : mmM) (N : Int) (i : Int) (m : mmM) : Prop := (∀ a, (a < 23 ∨ 30 < a) → m a = mem a) ∧ m 23 0 = N ∧ m 23 1 = (keptS (mem 7) i.toNat).1 ∧ keptP (keptS (mem 7) i.toNat).1 (keptS (mem 7) i.toNat).2 (mem 4) (mem 5) (mem 6) (m 24) (m 25) (m 26) (m 27) ∧ ∀ k, 0 ≤ k → k < (keptS (mem 7) i.toNat).1 → m 28 k = cueF (m 25) k ∧ m 29 k = gapF (m 24) k
def putP (mem m : mmM) : Prop := putI mem (mem 3 5) (mem 3 5) m ∧ ∀ k, 0 ≤ k → k < m 23 1 → m 30 k = likesF (m 23 1) (m 24) (m 28) k
theorem mset_updF (mem : mmM) (a : Nat) (k v : Int) : mset mem a k v a = updF (mem a) k v := by
  funext j
  rw [mset_at]
  rfl
theorem cn_X8_put {d : Nat} {P : mmM → Prop} {mem : mmM} (h : mmT bX8_put d 0 0 (mQv P) 0 [(2, 23), (2, 3), (9, 0)] [] mS mem) : conv bX8_put d [(2, 23), (2, 3)] mem P := mmC_of [(2, 23), (2, 3), (9, 0)] ok_X8_put.2.2.2.2 rfl (Nat.le_of_ble_eq_true rfl) h
theorem bk_X8_put_0 {d : Nat} {P : mmM → Prop} {mem : mmM}
  (k1 : mmT bX8_put d 0 0 (mQv P) 20 [(2, 23), (2, 3), (0, 0)] [] mS (mset (mset mem 23 0 (min (mem 3 5) 24)) 23 1 0))
  (hd1 : 1 ≤ d := by omega)
  : mmT bX8_put d 0 0 (mQv P) 0 [(2, 23), (2, 3), (9, 0)] [] mS mem := by
  refine st_aload_n (i := 0) rfl (t := 0) rfl (by decide) dX8_put_0 ?_
  refine st_aload_n (i := 1) rfl (t := 0) rfl (by decide) dX8_put_1 ?_
  refine so_getI (v := (mem 3 5)) 3 5 fr_X8_45_0 rfl sh_3 rfl dX8_put_2 (fun r1 => ?_)
  refine st_bipush rfl dX8_put_5 ?_
  refine sr_mmin r1 ⟨by decide, by decide⟩ mr_X8_51 ms_mini mi_Math mc_mini hd1 (Nat.le_of_ble_eq_true rfl) dX8_put_7 ?_
  refine so_putI 23 0 fr_X8_57_8 pf_8_0 fo_23_0 rfl sh_23 (imin32_rng r1 ⟨by decide, by decide⟩) dX8_put_10 ?_
  refine st_aload_n (i := 0) rfl (t := 0) rfl (by decide) dX8_put_13 ?_
  refine st_iconst dX8_put_14 ?_
  refine so_putI 23 1 fr_X8_60_8 pf_8_1 fo_23_1 rfl sh_23 ⟨by decide, by decide⟩ dX8_put_15 ?_
  refine st_iconst dX8_put_18 ?_
  refine st_istore_n (i := 2) rfl (by decide) (lc' := [(2, 23), (2, 3), (0, 0)]) rfl dX8_put_19 ?_
  exact st_locals [(2, 23), (2, 3), (0, 0)] ⟨Or.inr rfl, Or.inr rfl, Or.inr rfl, trivial⟩ k1
theorem bk_X8_put_20 {d : Nat} {P : mmM → Prop} {mem : mmM} {x2 : Int}
  (k1 : (mem 23 0) ≤ x2 → mmT bX8_put d 0 0 (mQv P) 158 [(2, 23), (9, 0), (0, 0)] [] mS mem)
  (k2 : x2 < (mem 23 0) → ¬ (mem 7 x2) = 0 → mmT bX8_put d 0 0 (mQv P) 20 [(2, 23), (2, 3), (0, (x2 + 1))] [] mS mem)
  (k3 : x2 < (mem 23 0) → (mem 7 x2) = 0 → ¬ (mem 23 1) = 0 → mmT bX8_put d 0 0 (mQv P) 20 [(2, 23), (2, 3), (0, (x2 + 1))] [] mS (mset (mset (mset (mset (mset (mset (mset mem 24 (mem 23 1) (mem 4 x2)) 25 (mem 23 1) (mem 5 x2)) 26 (mem 23 1) (mem 6 x2)) 27 (mem 23 1) x2) 28 (mem 23 1) ((mset (mset mem 24 (mem 23 1) (mem 4 x2)) 25 (mem 23 1) (mem 5 x2)) 25 ((mem 23 1) - 1))) 29 (mem 23 1) (gapF ((mset (mset (mset (mset (mset mem 24 (mem 23 1) (mem 4 x2)) 25 (mem 23 1) (mem 5 x2)) 26 (mem 23 1) (mem 6 x2)) 27 (mem 23 1) x2) 28 (mem 23 1) ((mset (mset mem 24 (mem 23 1) (mem 4 x2)) 25 (mem 23 1) (mem 5 x2)) 25 ((mem 23 1) - 1))) 24) (mem 23 1))) 23 1 ((mem 23 1) + 1)))
  (k4 : x2 < (mem 23 0) → (mem 7 x2) = 0 → (mem 23 1) = 0 → mmT bX8_put d 0 0 (mQv P) 20 [(2, 23), (2, 3), (0, (x2 + 1))] [] mS (mset (mset (mset (mset (mset (mset (mset mem 24 (mem 23 1) (mem 4 x2)) 25 (mem 23 1) (mem 5 x2)) 26 (mem 23 1) (mem 6 x2)) 27 (mem 23 1) x2) 28 (mem 23 1) (-1)) 29 (mem 23 1) (gapF ((mset (mset (mset (mset (mset mem 24 (mem 23 1) (mem 4 x2)) 25 (mem 23 1) (mem 5 x2)) 26 (mem 23 1) (mem 6 x2)) 27 (mem 23 1) x2) 28 (mem 23 1) (-1)) 24) (mem 23 1))) 23 1 ((mem 23 1) + 1)))
  (hd2 : 2 ≤ d := by omega)
  (s1 : R32 x2 := by intros; first | omega | assumption | solve_by_elim)
  (s2 : x2 < (mem 23 0) → 0 ≤ x2 ∧ x2 < 24 := by intros; first | omega | assumption | solve_by_elim)
  (s3 : x2 < (mem 23 0) → (mem 7 x2) = 0 → 0 ≤ (mem 23 1) ∧ (mem 23 1) < 24 := by intros; first | omega | assumption | solve_by_elim)
  (s4 : x2 < (mem 23 0) → (mem 7 x2) = 0 → ¬ (mem 23 1) = 0 → 0 ≤ ((mem 23 1) - 1) ∧ ((mem 23 1) - 1) < 24 := by intros; first | omega | assumption | solve_by_elim)
  (s5 : x2 < (mem 23 0) → (mem 7 x2) = 0 → ¬ (mem 23 1) = 0 → R32 ((mem 23 1) + 1) := by intros; first | omega | assumption | solve_by_elim)
  (s6 : x2 < (mem 23 0) → (mem 7 x2) = 0 → (mem 23 1) = 0 → R32 ((mem 23 1) + 1) := by intros; first | omega | assumption | solve_by_elim)
  : mmT bX8_put d 0 0 (mQv P) 20 [(2, 23), (2, 3), (0, x2)] [] mS mem := by
  refine st_iload_n (i := 2) rfl rfl dX8_put_20 ?_
  refine st_aload_n (i := 0) rfl (t := 0) rfl (by decide) dX8_put_21 ?_
  refine so_getI (v := (mem 23 0)) 23 0 fr_X8_57_8 rfl sh_23 rfl dX8_put_22 (fun r1 => ?_)
  refine sr_icmp_ge 156 s1 r1 (by decide) dX8_put_25 (fun h1 => ?_) (fun h1 => ?_)
  · have h1 : (mem 23 0) ≤ x2 := by omega
    refine st_iconst dX8_put_156 ?_
    refine st_istore_n (i := 2) rfl (by decide) (lc' := [(2, 23), (2, 3), (0, 0)]) rfl dX8_put_157 ?_
    exact st_locals [(2, 23), (9, 0), (0, 0)] ⟨Or.inr rfl, Or.inl rfl, Or.inr rfl, trivial⟩ (k1 h1)
  · have h1 : x2 < (mem 23 0) := by omega
    refine st_aload_n (i := 1) rfl (t := 0) rfl (by decide) dX8_put_28 ?_
    refine so_getA 3 4 fr_X8_63_0 rfl sh_3 fx_3_4 dX8_put_29 ?_
    refine st_iload_n (i := 2) rfl rfl dX8_put_32 ?_
    refine so_bald (v := (mem 7 x2)) 7 rfl sh_7 (by decide) (s2 h1) rfl dX8_put_33 (fun r2 => ?_)
    refine sr_if_ne 150 r2 (by decide) dX8_put_34 (fun h2 => ?_) (fun h2 => ?_)
    · have h2 : ¬ (mem 7 x2) = 0 := by omega
      refine st_iinc (y := (x2 + 1)) (by decide) (i := 2) rfl rfl (lc' := [(2, 23), (2, 3), (0, (x2 + 1))]) rfl dX8_put_150 ?_
      refine st_goto 20 (by decide) dX8_put_153 ?_
      exact st_locals [(2, 23), (2, 3), (0, (x2 + 1))] ⟨Or.inr rfl, Or.inr rfl, Or.inr rfl, trivial⟩ (k2 h1 h2)
    · have h2 : (mem 7 x2) = 0 := by omega
      refine st_aload_n (i := 0) rfl (t := 0) rfl (by decide) dX8_put_37 ?_
      refine so_getA 23 2 fr_X8_9_8 rfl sh_23 fx_23_2 dX8_put_38 ?_
      refine st_aload_n (i := 0) rfl (t := 0) rfl (by decide) dX8_put_41 ?_
      refine so_getI (v := (mem 23 1)) 23 1 fr_X8_60_8 rfl sh_23 rfl dX8_put_42 (fun r3 => ?_)
      refine st_aload_n (i := 1) rfl (t := 0) rfl (by decide) dX8_put_45 ?_
      refine so_getA 3 1 fr_X8_67_0 rfl sh_3 fx_3_1 dX8_put_46 ?_
      refine st_iload_n (i := 2) rfl rfl dX8_put_49 ?_
      refine so_iald (v := (mem 4 x2)) 4 rfl sh_4 (by decide) (s2 h1) rfl dX8_put_50 (fun r4 => ?_)
      refine so_iast 24 fr_24 rfl sh_24 (by decide) (s3 h1 h2) r4 dX8_put_51 ?_
      refine st_aload_n (i := 0) rfl (t := 0) rfl (by decide) dX8_put_52 ?_
      refine so_getA 23 3 fr_X8_15_8 rfl sh_23 fx_23_3 dX8_put_53 ?_
      refine st_aload_n (i := 0) rfl (t := 0) rfl (by decide) dX8_put_56 ?_
      refine so_getI (v := (mem 23 1)) 23 1 fr_X8_60_8 rfl sh_23 rfl dX8_put_57 (fun r5 => ?_)
      refine st_aload_n (i := 1) rfl (t := 0) rfl (by decide) dX8_put_60 ?_
      refine so_getA 3 2 fr_X8_68_0 rfl sh_3 fx_3_2 dX8_put_61 ?_
      refine st_iload_n (i := 2) rfl rfl dX8_put_64 ?_
      refine so_iald (v := (mem 5 x2)) 5 rfl sh_5 (by decide) (s2 h1) rfl dX8_put_65 (fun r6 => ?_)
      refine so_iast 25 fr_25 rfl sh_25 (by decide) (s3 h1 h2) r6 dX8_put_66 ?_
      refine st_aload_n (i := 0) rfl (t := 0) rfl (by decide) dX8_put_67 ?_
      refine so_getA 23 4 fr_X8_18_8 rfl sh_23 fx_23_4 dX8_put_68 ?_
      refine st_aload_n (i := 0) rfl (t := 0) rfl (by decide) dX8_put_71 ?_
      refine so_getI (v := (mem 23 1)) 23 1 fr_X8_60_8 rfl sh_23 rfl dX8_put_72 (fun r7 => ?_)
      refine st_aload_n (i := 1) rfl (t := 0) rfl (by decide) dX8_put_75 ?_
      refine so_getA 3 3 fr_X8_69_0 rfl sh_3 fx_3_3 dX8_put_76 ?_
      refine st_iload_n (i := 2) rfl rfl dX8_put_79 ?_
      refine so_iald (v := (mem 6 x2)) 6 rfl sh_6 (by decide) (s2 h1) rfl dX8_put_80 (fun r8 => ?_)
      refine so_iast 26 fr_26 rfl sh_26 (by decide) (s3 h1 h2) r8 dX8_put_81 ?_
      refine st_aload_n (i := 0) rfl (t := 0) rfl (by decide) dX8_put_82 ?_
      refine so_getA 23 5 fr_X8_21_8 rfl sh_23 fx_23_5 dX8_put_83 ?_
      refine st_aload_n (i := 0) rfl (t := 0) rfl (by decide) dX8_put_86 ?_
      refine so_getI (v := (mem 23 1)) 23 1 fr_X8_60_8 rfl sh_23 rfl dX8_put_87 (fun r9 => ?_)
      refine st_iload_n (i := 2) rfl rfl dX8_put_90 ?_
      refine so_iast 27 fr_27 rfl sh_27 (by decide) (s3 h1 h2) s1 dX8_put_91 ?_
      refine st_aload_n (i := 0) rfl (t := 0) rfl (by decide) dX8_put_92 ?_
      refine so_getA 23 6 fr_X8_24_8 rfl sh_23 fx_23_6 dX8_put_93 ?_
      refine st_aload_n (i := 0) rfl (t := 0) rfl (by decide) dX8_put_96 ?_
      refine so_getI (v := (mem 23 1)) 23 1 fr_X8_60_8 rfl sh_23 rfl dX8_put_97 (fun r10 => ?_)
      refine st_aload_n (i := 0) rfl (t := 0) rfl (by decide) dX8_put_100 ?_
      refine so_getI (v := (mem 23 1)) 23 1 fr_X8_60_8 rfl sh_23 rfl dX8_put_101 (fun r11 => ?_)
      refine sr_if_ne 111 r11 (by decide) dX8_put_104 (fun h3 => ?_) (fun h3 => ?_)
      · have h3 : ¬ (mem 23 1) = 0 := by omega
        refine st_aload_n (i := 0) rfl (t := 0) rfl (by decide) dX8_put_111 ?_
        refine so_getA 23 3 fr_X8_15_8 rfl sh_23 fx_23_3 dX8_put_112 ?_
        refine st_aload_n (i := 0) rfl (t := 0) rfl (by decide) dX8_put_115 ?_
        refine so_getI (v := (mem 23 1)) 23 1 fr_X8_60_8 rfl sh_23 rfl dX8_put_116 (fun r12 => ?_)
        refine st_iconst dX8_put_119 ?_
        refine st_isub dX8_put_120 ?_
        refine so_iald (v := ((mset (mset mem 24 (mem 23 1) (mem 4 x2)) 25 (mem 23 1) (mem 5 x2)) 25 ((mem 23 1) - 1))) 25 rfl sh_25 (by decide) (s4 h1 h2 h3) rfl dX8_put_121 (fun r13 => ?_)
        refine so_iast 28 fr_28 rfl sh_28 (by decide) (s3 h1 h2) r13 dX8_put_122 ?_
        refine st_aload_n (i := 0) rfl (t := 0) rfl (by decide) dX8_put_123 ?_
        refine so_getA 23 7 fr_X8_27_8 rfl sh_23 fx_23_7 dX8_put_124 ?_
        refine st_aload_n (i := 0) rfl (t := 0) rfl (by decide) dX8_put_127 ?_
        refine so_getI (v := (mem 23 1)) 23 1 fr_X8_60_8 rfl sh_23 rfl dX8_put_128 (fun r14 => ?_)
        refine st_aload_n (i := 0) rfl (t := 0) rfl (by decide) dX8_put_131 ?_
        refine st_aload_n (i := 0) rfl (t := 0) rfl (by decide) dX8_put_132 ?_
        refine so_getI (v := (mem 23 1)) 23 1 fr_X8_60_8 rfl sh_23 rfl dX8_put_133 (fun r15 => ?_)
        refine st_callV (kc2 := 0) (ks2 := 0) (av := [(0, (mem 23 1))]) 23 8 mr_X8_70 ok_X8_gapOf (c_X8_gapOf (mset (mset (mset (mset (mset mem 24 (mem 23 1) (mem 4 x2)) 25 (mem 23 1) (mem 5 x2)) 26 (mem 23 1) (mem 6 x2)) 27 (mem 23 1) x2) 28 (mem 23 1) ((mset (mset mem 24 (mem 23 1) (mem 4 x2)) 25 (mem 23 1) (mem 5 x2)) 25 ((mem 23 1) - 1))) (mem 23 1) ((s3 h1 h2))) rfl sh_23 ⟨_, rfl, rfl, by decide⟩ rfl rfl hd2 (Nat.le_refl 0) (Nat.le_refl 0) (Nat.le_of_ble_eq_true rfl) dX8_put_136 (mQ.elim fun v1 m1 hp => ?_)
        obtain ⟨hpv, hpm⟩ := hp
        subst hpv
        have hpm := hpm.symm
        subst hpm
        refine so_iast 29 fr_29 rfl sh_29 (by decide) (s3 h1 h2) (gapF_rng ((s3 h1 h2))) dX8_put_139 ?_
        refine st_aload_n (i := 0) rfl (t := 0) rfl (by decide) dX8_put_140 ?_
        refine st_dup (Nat.ne_of_beq_eq_false rfl) dX8_put_141 ?_
        refine so_getI (v := (mem 23 1)) 23 1 fr_X8_60_8 rfl sh_23 rfl dX8_put_142 (fun r16 => ?_)
        refine st_iconst dX8_put_145 ?_
        refine st_iadd dX8_put_146 ?_
        refine so_putI 23 1 fr_X8_60_8 pf_8_1 fo_23_1 rfl sh_23 (s5 h1 h2 h3) dX8_put_147 ?_
        refine st_iinc (y := (x2 + 1)) (by decide) (i := 2) rfl rfl (lc' := [(2, 23), (2, 3), (0, (x2 + 1))]) rfl dX8_put_150 ?_
        refine st_goto 20 (by decide) dX8_put_153 ?_
        exact st_locals [(2, 23), (2, 3), (0, (x2 + 1))] ⟨Or.inr rfl, Or.inr rfl, Or.inr rfl, trivial⟩ (k3 h1 h2 h3)
      · have h3 : (mem 23 1) = 0 := by omega
        refine st_iconst dX8_put_107 ?_
        refine st_goto 122 (by decide) dX8_put_108 ?_
        refine so_iast 28 fr_28 rfl sh_28 (by decide) (s3 h1 h2) ⟨by decide, by decide⟩ dX8_put_122 ?_
        refine st_aload_n (i := 0) rfl (t := 0) rfl (by decide) dX8_put_123 ?_
        refine so_getA 23 7 fr_X8_27_8 rfl sh_23 fx_23_7 dX8_put_124 ?_
        refine st_aload_n (i := 0) rfl (t := 0) rfl (by decide) dX8_put_127 ?_
        refine so_getI (v := (mem 23 1)) 23 1 fr_X8_60_8 rfl sh_23 rfl dX8_put_128 (fun r17 => ?_)
        refine st_aload_n (i := 0) rfl (t := 0) rfl (by decide) dX8_put_131 ?_
        refine st_aload_n (i := 0) rfl (t := 0) rfl (by decide) dX8_put_132 ?_
        refine so_getI (v := (mem 23 1)) 23 1 fr_X8_60_8 rfl sh_23 rfl dX8_put_133 (fun r18 => ?_)
        refine st_callV (kc2 := 0) (ks2 := 0) (av := [(0, (mem 23 1))]) 23 8 mr_X8_70 ok_X8_gapOf (c_X8_gapOf (mset (mset (mset (mset (mset mem 24 (mem 23 1) (mem 4 x2)) 25 (mem 23 1) (mem 5 x2)) 26 (mem 23 1) (mem 6 x2)) 27 (mem 23 1) x2) 28 (mem 23 1) (-1)) (mem 23 1) ((s3 h1 h2))) rfl sh_23 ⟨_, rfl, rfl, by decide⟩ rfl rfl hd2 (Nat.le_refl 0) (Nat.le_refl 0) (Nat.le_of_ble_eq_true rfl) dX8_put_136 (mQ.elim fun v2 m2 hp => ?_)
        obtain ⟨hpv, hpm⟩ := hp
        subst hpv
        have hpm := hpm.symm
        subst hpm
        refine so_iast 29 fr_29 rfl sh_29 (by decide) (s3 h1 h2) (gapF_rng ((s3 h1 h2))) dX8_put_139 ?_
        refine st_aload_n (i := 0) rfl (t := 0) rfl (by decide) dX8_put_140 ?_
        refine st_dup (Nat.ne_of_beq_eq_false rfl) dX8_put_141 ?_
        refine so_getI (v := (mem 23 1)) 23 1 fr_X8_60_8 rfl sh_23 rfl dX8_put_142 (fun r19 => ?_)
        refine st_iconst dX8_put_145 ?_
        refine st_iadd dX8_put_146 ?_
        refine so_putI 23 1 fr_X8_60_8 pf_8_1 fo_23_1 rfl sh_23 (s6 h1 h2 h3) dX8_put_147 ?_
        refine st_iinc (y := (x2 + 1)) (by decide) (i := 2) rfl rfl (lc' := [(2, 23), (2, 3), (0, (x2 + 1))]) rfl dX8_put_150 ?_
        refine st_goto 20 (by decide) dX8_put_153 ?_
        exact st_locals [(2, 23), (2, 3), (0, (x2 + 1))] ⟨Or.inr rfl, Or.inr rfl, Or.inr rfl, trivial⟩ (k4 h1 h2 h3)
theorem bk_X8_put_158 {d : Nat} {P : mmM → Prop} {mem : mmM} {x2 : Int}
  (k1 : x2 < (mem 23 1) → mmT bX8_put d 0 0 (mQv P) 158 [(2, 23), (9, 0), (0, (x2 + 1))] [] mS (mset mem 30 x2 (likesF (mem 23 1) (mem 24) (mem 28) x2)))
  (q1 : (mem 23 1) ≤ x2 → P mem)
  (hd4 : 4 ≤ d := by omega)
  (s1 : R32 x2 := by intros; first | omega | assumption | solve_by_elim)
  (s2 : x2 < (mem 23 1) → 0 ≤ (mem 23 1) ∧ (mem 23 1) ≤ 24 := by intros; first | omega | assumption | solve_by_elim)
  (s3 : x2 < (mem 23 1) → 0 ≤ x2 ∧ x2 < 24 := by intros; first | omega | assumption | solve_by_elim)
  : mmT bX8_put d 0 0 (mQv P) 158 [(2, 23), (9, 0), (0, x2)] [] mS mem := by
  refine st_iload_n (i := 2) rfl rfl dX8_put_158 ?_
  refine st_aload_n (i := 0) rfl (t := 0) rfl (by decide) dX8_put_159 ?_
  refine so_getI (v := (mem 23 1)) 23 1 fr_X8_60_8 rfl sh_23 rfl dX8_put_160 (fun r1 => ?_)
  refine sr_icmp_ge 183 s1 r1 (by decide) dX8_put_163 (fun h1 => ?_) (fun h1 => ?_)
  · have h1 : (mem 23 1) ≤ x2 := by omega
    exact st_return rfl dX8_put_183 (mQv.ret (q1 h1))
  · have h1 : x2 < (mem 23 1) := by omega
    refine st_aload_n (i := 0) rfl (t := 0) rfl (by decide) dX8_put_166 ?_
    refine so_getA 23 8 fr_X8_30_8 rfl sh_23 fx_23_8 dX8_put_167 ?_
    refine st_iload_n (i := 2) rfl rfl dX8_put_170 ?_
    refine st_aload_n (i := 0) rfl (t := 0) rfl (by decide) dX8_put_171 ?_
    refine st_iload_n (i := 2) rfl rfl dX8_put_172 ?_
    refine st_callV (kc2 := 0) (ks2 := 0) (av := [(0, x2)]) 23 8 mr_X8_74 ok_X8_likesOf (c_X8_likesOf mem x2 (s1) ((s2 h1))) rfl sh_23 ⟨_, rfl, rfl, by decide⟩ rfl rfl hd4 (Nat.le_refl 0) (Nat.le_refl 0) (Nat.le_of_ble_eq_true rfl) dX8_put_173 (mQ.elim fun v1 m1 hp => ?_)
    obtain ⟨hpv, hpm⟩ := hp
    subst hpv
    have hpm := hpm.symm
    subst hpm
    refine so_iast 30 fr_30 rfl sh_30 (by decide) (s3 h1) (likesF_rng (s1) ((s2 h1))) dX8_put_176 ?_
    refine st_iinc (y := (x2 + 1)) (by decide) (i := 2) rfl rfl (lc' := [(2, 23), (9, 0), (0, (x2 + 1))]) rfl dX8_put_177 ?_
    refine st_goto 158 (by decide) dX8_put_180 ?_
    exact st_locals [(2, 23), (9, 0), (0, (x2 + 1))] ⟨Or.inr rfl, Or.inl rfl, Or.inr rfl, trivial⟩ (k1 h1)
theorem putI_step {mem m m' : mmM} {N i : Int} (i0 : 0 ≤ i) (h : putI mem N i m) (hc : mem 7 i = 0) (fr : ∀ a, (a < 23 ∨ 30 < a) → m' a = m a) (h0 : m' 23 0 = m 23 0) (h1 : m' 23 1 = m 23 1 + 1) (h24 : m' 24 = updF (m 24) (m 23 1) (mem 4 i)) (h25 : m' 25 = updF (m 25) (m 23 1) (mem 5 i)) (h26 : m' 26 = updF (m 26) (m 23 1) (mem 6 i)) (h27 : m' 27 = updF (m 27) (m 23 1) i) (h28 : m' 28 = updF (m 28) (m 23 1) (cueF (m' 25) (m 23 1))) (h29 : m' 29 = updF (m 29) (m 23 1) (gapF (m' 24) (m 23 1))) : putI mem N (i + 1) m' := by
  obtain ⟨w1, w2, w3, w4, w5⟩ := h
  have e : keptS (mem 7) (i + 1).toNat = ((keptS (mem 7) i.toNat).1 + 1, updF (keptS (mem 7) i.toNat).2 (keptS (mem 7) i.toNat).1 i) := by
    have hc' : mem 7 ((i.toNat : Nat) : Int) = 0 := by rw [Int.toNat_of_nonneg i0]; exact hc
    rw [show (i + 1).toNat = i.toNat + 1 by omega, keptS_yes hc', Int.toNat_of_nonneg i0]
  have rg := keptS_rng (mem 7) i.toNat
  rw [← w3] at e w4 w5 rg
  unfold putI
  rw [e]
  refine ⟨fun a ha => (fr a ha).trans (w1 a ha), h0.trans w2, h1, keptP_upd w4 h24 h25 h26 h27, fun k k0 k1 => ?_⟩
  have k1' : k < m 23 1 + 1 := k1
  by_cases q : k = m 23 1
  · rw [h28, h29, q, updF_same, updF_same]
    exact ⟨rfl, rfl⟩
  · rw [h28, h29, updF_ne q, updF_ne q, (w5 k k0 (by omega)).1, (w5 k k0 (by omega)).2]
    refine ⟨?_, ?_⟩
    · refine (cueF_congr (n := m 23 1) (fun j j0 j1 => ?_) k0 (by omega)).symm
      rw [h25, updF_ne (by omega)]
    · refine (gapF_congr k0 (fun j j0 j1 => ?_)).symm
      rw [h24, updF_ne (by omega)]
theorem c_X8_put (mem : mmM) (hN : 0 ≤ mem 3 5 ∧ mem 3 5 ≤ 24) : conv bX8_put 4 [(2, 23), (2, 3)] mem (putP mem) := by
  refine cn_X8_put (bk_X8_put_0 ?_)
  refine loop_up (n := mem 3 5) (fun i => ∀ m, putI mem (mem 3 5) i m → mmT bX8_put 4 0 0 (mQv (putP mem)) 20 [(2, 23), (2, 3), (0, i)] [] mS m) (fun i i0 i1 ih m hm => ?_) 0 (by omega) (by omega) _ ⟨fun a ha => by rw [mset_ne (by omega), mset_ne (by omega)], ?_, mset_same _ _ _ _, fun k k0 k1 => ?_, fun k k0 k1 => ?_⟩
  · have rg := keptS_rng (mem 7) i.toNat
    have e3 := hm.2.2.1
    have e2 := hm.2.1
    have f4 := hm.1 4 (by omega)
    have f5 := hm.1 5 (by omega)
    have f6 := hm.1 6 (by omega)
    have f7 := hm.1 7 (by omega)
    refine bk_X8_put_20 (fun g => ?_) (fun g g2 => ?_) (fun g g2 g3 => ?_) (fun g g2 g3 => ?_) (s1 := ⟨by omega, by omega⟩) (s2 := fun _ => by omega) (s3 := fun _ _ => by omega) (s4 := fun _ _ _ => by omega) (s5 := fun _ _ _ => ⟨by omega, by omega⟩) (s6 := fun _ _ _ => ⟨by omega, by omega⟩)
    · have hi : i = mem 3 5 := by omega
      rw [hi] at hm rg e3
      refine loop_up (n := m 23 1) (fun j => ∀ m', (∀ a, a ≠ 30 → m' a = m a) → (∀ k, 0 ≤ k → k < j → m' 30 k = likesF (m 23 1) (m 24) (m 28) k) → mmT bX8_put 4 0 0 (mQv (putP mem)) 158 [(2, 23), (9, 0), (0, j)] [] mS m') (fun j j0 j1 ih2 m' fr hl => ?_) 0 (by omega) (by omega) m (fun _ _ => rfl) (fun k k0 k1 => by omega)
      have z23 := fr 23 (by decide)
      have z24 := fr 24 (by decide)
      have z28 := fr 28 (by decide)
      refine bk_X8_put_158 (fun g => ih2 (by rw [← z23]; exact g) _ (fun a ha => ?_) (fun k k0 k1 => ?_)) (fun g => ?_) (s1 := ⟨by omega, by omega⟩) (s2 := fun _ => by rw [z23]; omega) (s3 := fun g => by rw [z23] at g; omega)
      · rw [mset_ne ha]
        exact fr a ha
      · rw [mset_at, z23, z24, z28]
        split
        · rename_i q
          rw [q]
        · exact hl k k0 (by omega)
      · have z25 := fr 25 (by decide)
        have z26 := fr 26 (by decide)
        have z27 := fr 27 (by decide)
        have z29 := fr 29 (by decide)
        have hj : j = m 23 1 := by
          rw [z23] at g
          omega
        rw [hj] at hl
        unfold putP putI
        rw [z23, z24, z25, z26, z27, z28, z29]
        exact ⟨⟨fun a ha => (fr a (by omega)).trans (hm.1 a ha), hm.2⟩, hl⟩
    · rw [e2] at g
      rw [f7] at g2
      refine ih g m ⟨hm.1, hm.2.1, ?_⟩
      have hc' : ¬ mem 7 ((i.toNat : Nat) : Int) = 0 := by rw [Int.toNat_of_nonneg i0]; exact g2
      rw [show (i + 1).toNat = i.toNat + 1 by omega, keptS_no hc']
      exact hm.2.2
    · rw [e2] at g
      rw [f7] at g2
      refine ih g _ (putI_step i0 hm g2 (fun a ha => ?_) ?_ ?_ ?_ ?_ ?_ ?_ ?_ ?_)
      · rw [mset_ne (by omega), mset_ne (by omega), mset_ne (by omega), mset_ne (by omega), mset_ne (by omega), mset_ne (by omega), mset_ne (by omega)]
      · rw [mset_at, if_neg (by decide), mset_ne (by decide), mset_ne (by decide), mset_ne (by decide), mset_ne (by decide), mset_ne (by decide), mset_ne (by decide)]
      · rw [mset_same]
      · rw [mset_ne (by decide), mset_ne (by decide), mset_ne (by decide), mset_ne (by decide), mset_ne (by decide), mset_ne (by decide), mset_updF, f4]
      · rw [mset_ne (by decide), mset_ne (by decide), mset_ne (by decide), mset_ne (by decide), mset_ne (by decide), mset_updF, mset_ne (by decide), f5]
      · rw [mset_ne (by decide), mset_ne (by decide), mset_ne (by decide), mset_ne (by decide), mset_updF, mset_ne (by decide), mset_ne (by decide), f6]
      · rw [mset_ne (by decide), mset_ne (by decide), mset_ne (by decide), mset_updF, mset_ne (by decide), mset_ne (by decide), mset_ne (by decide)]
      · have ec : ∀ w : Int → Int, cueF w (m 23 1) = w (m 23 1 - 1) := fun w => if_neg g3
        rw [ec, mset_ne (by decide), mset_ne (by decide), mset_updF, mset_ne (by decide), mset_ne (by decide), mset_ne (by decide), mset_ne (by decide)]
        congr 1
      · rw [mset_ne (by decide), mset_updF, mset_ne (by decide), mset_ne (by decide), mset_ne (by decide), mset_ne (by decide), mset_ne (by decide)]
        congr 1
    · rw [e2] at g
      rw [f7] at g2
      refine ih g _ (putI_step i0 hm g2 (fun a ha => ?_) ?_ ?_ ?_ ?_ ?_ ?_ ?_ ?_)
      · rw [mset_ne (by omega), mset_ne (by omega), mset_ne (by omega), mset_ne (by omega), mset_ne (by omega), mset_ne (by omega), mset_ne (by omega)]
      · rw [mset_at, if_neg (by decide), mset_ne (by decide), mset_ne (by decide), mset_ne (by decide), mset_ne (by decide), mset_ne (by decide), mset_ne (by decide)]
      · rw [mset_same]
      · rw [mset_ne (by decide), mset_ne (by decide), mset_ne (by decide), mset_ne (by decide), mset_ne (by decide), mset_ne (by decide), mset_updF, f4]
      · rw [mset_ne (by decide), mset_ne (by decide), mset_ne (by decide), mset_ne (by decide), mset_ne (by decide), mset_updF, mset_ne (by decide), f5]
      · rw [mset_ne (by decide), mset_ne (by decide), mset_ne (by decide), mset_ne (by decide), mset_updF, mset_ne (by decide), mset_ne (by decide), f6]
      · rw [mset_ne (by decide), mset_ne (by decide), mset_ne (by decide), mset_updF, mset_ne (by decide), mset_ne (by decide), mset_ne (by decide)]
      · have ec : ∀ w : Int → Int, cueF w (m 23 1) = -1 := fun w => if_pos g3
        rw [ec, mset_ne (by decide), mset_ne (by decide), mset_updF, mset_ne (by decide), mset_ne (by decide), mset_ne (by decide), mset_ne (by decide)]
      · rw [mset_ne (by decide), mset_updF, mset_ne (by decide), mset_ne (by decide), mset_ne (by decide), mset_ne (by decide), mset_ne (by decide)]
        congr 1
  · rw [mset_at, if_neg (by decide), mset_same]
    omega
  · have : (keptS (mem 7) (0 : Int).toNat).1 = 0 := rfl
    omega
  · have : (keptS (mem 7) (0 : Int).toNat).1 = 0 := rfl
    omega
theorem weigh_held (mem : mmM) (cl : lawT) (hx : -1 ≤ mem 0 12 ∧ mem 0 12 < 4) (hn : 0 ≤ mem 23 1 ∧ mem 23 1 ≤ 24) (hL : ∀ i b k, 0 ≤ i → i < mem 23 1 → (b = 0 ∨ b = 1) → -1000000 ≤ letterX mem (leF k) i b ∧ letterX mem (leF k) i b ≤ 1000000)
    (l0 : mem 0 12 = 0 → (0 ≤ mem 11 1 ∧ mem 11 1 ≤ 160) ∧ lawX (mem 12) (mem 11 1) 0 cl) (l1 : mem 0 12 = 1 → (0 ≤ mem 14 1 ∧ mem 14 1 ≤ 160) ∧ lawX (mem 15) (mem 14 1) 0 cl) (l2 : mem 0 12 = 2 → (0 ≤ mem 17 1 ∧ mem 17 1 ≤ 160) ∧ lawX (mem 18) (mem 17 1) 0 cl) (l3 : mem 0 12 = 3 → (0 ≤ mem 20 1 ∧ mem 20 1 ≤ 160) ∧ lawX (mem 21) (mem 20 1) 0 cl) : conv bX8_weigh 5 [(2, 23), (2, lawRef (mem 0 12))] mem (holdP mem (mem 0 12) cl) := by
  have nx : ∀ m : mmM, m 0 = mem 0 → (∀ j, j ≠ 12 → m 0 j = mem 0 j) ∧ m 0 12 = mem 0 12 := fun m e => ⟨fun j _ => by rw [e], by rw [e]⟩
  have c : mem 0 12 = 0 ∨ mem 0 12 = 1 ∨ mem 0 12 = 2 ∨ mem 0 12 = 3 ∨ mem 0 12 = -1 := by omega
  have ng : ¬ mem 0 12 = -1 → ∀ a b : Int, a = b → a = if mem 0 12 = -1 then 0 else b := fun h a b e => by rw [if_neg h]; exact e
  unfold lawRef
  rcases c with c | c | c | c | c
  · rw [if_pos c]
    refine conv.mono (c_X8_weigh_11 mem cl hn hL (l0 c).1 (l0 c).2) (fun m q => ?_)
    have f := fun a a1 a2 a3 a4 => q.1 a a1 a2 a3 a4
    exact ⟨fun a a1 a2 a3 a4 => f a a3 a4 (by omega) (by omega), (nx m (f 0 (by decide) (by decide) (by decide) (by decide))).1, (nx m (f 0 (by decide) (by decide) (by decide) (by decide))).2, ⟨q.2.1 1 (by decide), by rw [f 14 (by decide) (by decide) (by decide) (by decide)], by rw [f 17 (by decide) (by decide) (by decide) (by decide)], by rw [f 20 (by decide) (by decide) (by decide) (by decide)]⟩, ⟨f 12 (by decide) (by decide) (by decide) (by decide), f 15 (by decide) (by decide) (by decide) (by decide), f 18 (by decide) (by decide) (by decide) (by decide), f 21 (by decide) (by decide) (by decide) (by decide)⟩, fun i i0 i1 => ⟨ng (by omega) _ _ (q.2.2 i i0 i1).1, ng (by omega) _ _ (q.2.2 i i0 i1).2⟩⟩
  · rw [if_neg (by omega), if_pos c]
    refine conv.mono (c_X8_weigh_14 mem cl hn hL (l1 c).1 (l1 c).2) (fun m q => ?_)
    have f := fun a a1 a2 a3 a4 => q.1 a a1 a2 a3 a4
    exact ⟨fun a a1 a2 a3 a4 => f a a3 a4 (by omega) (by omega), (nx m (f 0 (by decide) (by decide) (by decide) (by decide))).1, (nx m (f 0 (by decide) (by decide) (by decide) (by decide))).2, ⟨by rw [f 11 (by decide) (by decide) (by decide) (by decide)], q.2.1 1 (by decide), by rw [f 17 (by decide) (by decide) (by decide) (by decide)], by rw [f 20 (by decide) (by decide) (by decide) (by decide)]⟩, ⟨f 12 (by decide) (by decide) (by decide) (by decide), f 15 (by decide) (by decide) (by decide) (by decide), f 18 (by decide) (by decide) (by decide) (by decide), f 21 (by decide) (by decide) (by decide) (by decide)⟩, fun i i0 i1 => ⟨ng (by omega) _ _ (q.2.2 i i0 i1).1, ng (by omega) _ _ (q.2.2 i i0 i1).2⟩⟩
  · rw [if_neg (by omega), if_neg (by omega), if_pos c]
    refine conv.mono (c_X8_weigh_17 mem cl hn hL (l2 c).1 (l2 c).2) (fun m q => ?_)
    have f := fun a a1 a2 a3 a4 => q.1 a a1 a2 a3 a4
    exact ⟨fun a a1 a2 a3 a4 => f a a3 a4 (by omega) (by omega), (nx m (f 0 (by decide) (by decide) (by decide) (by decide))).1, (nx m (f 0 (by decide) (by decide) (by decide) (by decide))).2, ⟨by rw [f 11 (by decide) (by decide) (by decide) (by decide)], by rw [f 14 (by decide) (by decide) (by decide) (by decide)], q.2.1 1 (by decide), by rw [f 20 (by decide) (by decide) (by decide) (by decide)]⟩, ⟨f 12 (by decide) (by decide) (by decide) (by decide), f 15 (by decide) (by decide) (by decide) (by decide), f 18 (by decide) (by decide) (by decide) (by decide), f 21 (by decide) (by decide) (by decide) (by decide)⟩, fun i i0 i1 => ⟨ng (by omega) _ _ (q.2.2 i i0 i1).1, ng (by omega) _ _ (q.2.2 i i0 i1).2⟩⟩
  · rw [if_neg (by omega), if_neg (by omega), if_neg (by omega), if_pos c]
    refine conv.mono (c_X8_weigh_20 mem cl hn hL (l3 c).1 (l3 c).2) (fun m q => ?_)
    have f := fun a a1 a2 a3 a4 => q.1 a a1 a2 a3 a4
    exact ⟨fun a a1 a2 a3 a4 => f a a3 a4 (by omega) (by omega), (nx m (f 0 (by decide) (by decide) (by decide) (by decide))).1, (nx m (f 0 (by decide) (by decide) (by decide) (by decide))).2, ⟨by rw [f 11 (by decide) (by decide) (by decide) (by decide)], by rw [f 14 (by decide) (by decide) (by decide) (by decide)], by rw [f 17 (by decide) (by decide) (by decide) (by decide)], q.2.1 1 (by decide)⟩, ⟨f 12 (by decide) (by decide) (by decide) (by decide), f 15 (by decide) (by decide) (by decide) (by decide), f 18 (by decide) (by decide) (by decide) (by decide), f 21 (by decide) (by decide) (by decide) (by decide)⟩, fun i i0 i1 => ⟨ng (by omega) _ _ (q.2.2 i i0 i1).1, ng (by omega) _ _ (q.2.2 i i0 i1).2⟩⟩
  · rw [if_neg (by omega), if_neg (by omega), if_neg (by omega), if_neg (by omega)]
    refine conv.mono (c_X8_weigh_n mem hn) (fun m q => ?_)
    have f := fun a a1 a2 => q.1 a a1 a2
    exact ⟨fun a a1 a2 a3 a4 => f a a3 a4, (nx m (f 0 (by decide) (by decide))).1, (nx m (f 0 (by decide) (by decide))).2, ⟨by rw [f 11 (by decide) (by decide)], by rw [f 14 (by decide) (by decide)], by rw [f 17 (by decide) (by decide)], by rw [f 20 (by decide) (by decide)]⟩, ⟨f 12 (by decide) (by decide), f 15 (by decide) (by decide), f 18 (by decide) (by decide), f 21 (by decide) (by decide)⟩, fun i i0 i1 => ⟨by rw [if_pos c]; exact (q.2 i i0 i1).1, by rw [if_pos c]; exact (q.2 i i0 i1).2⟩⟩
theorem heldLaw_any (mem : mmM) (hx : -1 ≤ mem 0 12 ∧ mem 0 12 < 4) : con 2 bX11_heldLaw 0 [(2, 0)] mem (fun v m => v = lawRef (mem 0 12) ∧ m = mem) := by
  have c : mem 0 12 = 0 ∨ mem 0 12 = 1 ∨ mem 0 12 = 2 ∨ mem 0 12 = 3 ∨ mem 0 12 = -1 := by omega
  unfold lawRef
  rcases c with c | c | c | c | c
  · rw [if_pos c]
    exact c_X11_heldLaw_0 _ c
  · rw [if_neg (by omega), if_pos c]
    exact c_X11_heldLaw_1 _ c
  · rw [if_neg (by omega), if_neg (by omega), if_pos c]
    exact c_X11_heldLaw_2 _ c
  · rw [if_neg (by omega), if_neg (by omega), if_neg (by omega), if_pos c]
    exact c_X11_heldLaw_3 _ c
  · rw [if_neg (by omega), if_neg (by omega), if_neg (by omega), if_neg (by omega)]
    exact c_X11_heldLaw_n _ c
/-- M's book taken -/
def tookI (mem : mmM) (K : Int → Int) (i : Int) (m : mmM) : Prop := (∀ a, a ≠ 65 → a ≠ 79 → a ≠ 80 → a ≠ 81 → a ≠ 82 → a ≠ 85 → m a = mem a) ∧ (∀ j, j ≠ 26 → j ≠ 27 → m 65 j = mem 65 j) ∧ m 65 26 = mem 65 20 ∧ m 65 27 = (keptS K i.toNat).1 ∧ keptP (keptS K i.toNat).1 (keptS K i.toNat).2 (mem 76) (mem 77) (mem 78) (m 79) (m 80) (m 81) (m 82) ∧ (∀ k, 0 ≤ k → k < (keptS K i.toNat).1 → m 85 k = 0) ∧ ∀ k, (keptS K i.toNat).1 ≤ k → m 79 k = mem 79 k ∧ m 80 k = mem 80 k ∧ m 81 k = mem 81 k ∧ m 85 k = mem 85 k
def cutK (c : Int) (i : Int) : Int := if and32 (shr32 c i) 1 = 1 then 1 else 0
def tookP (mem m : mmM) : Prop := ∃ m0, tookI mem (cutK (mem 65 21)) (mem 65 20) m0 ∧ m = mset (mset (mset (mset (mset m0 65 31 0) 65 34 0) 65 32 0) 65 58 0) 65 45 0
theorem clearX_else (mem : mmM) {a : Nat} (h1 : a ≠ 47) (h2 : a ≠ 48) : clearX mem a = mem a := by
  show (if a = 48 then _ else mset (mset (mset (mset mem 47 0 0) 47 1 0) 47 2 0) 47 4 0 a) = mem a
  rw [if_neg h2, mset_ne h1, mset_ne h1, mset_ne h1, mset_ne h1]
theorem planX_else (mem : mmM) {a : Nat} (h1 : a ≠ 38) : planX mem a = mem a := if_neg h1
theorem cn_X11_takeBook {d : Nat} {P : Int → mmM → Prop} {mem : mmM} (h : mmT bX11_takeBook d 0 0 (mQ 0 P) 0 [(2, 0)] [] mS mem) : con 0 bX11_takeBook d [(2, 0)] mem P := mmC_of [(2, 0)] ok_X11_takeBook.2.2.2.2 rfl (Nat.le_of_ble_eq_true rfl) h
theorem bk_X11_takeBook_0 {d : Nat} {d1 : Nat} {P1 : mmM → Prop} {d2 : Nat} {P2 : Int → mmM → Prop} {d3 : Nat} {P3 : mmM → Prop} {d4 : Nat} {P4 : mmM → Prop} {P : Int → mmM → Prop} {mem : mmM}
  (c1 : conv bX8_put d1 [(2, 23), (2, 3)] (mset mem 1 1 0) P1)
  (c2 : ∀ (m1 : mmM), P1 m1 → con 2 bX11_heldLaw d2 [(2, 0)] m1 P2)
  (c3 : ∀ (m1 : mmM), P1 m1 → ∀ (v1 : Int), ∀ (m2 : mmM), P2 v1 m2 → conv bX8_weigh d3 [(2, 23), (2, v1)] m2 P3)
  (c4 : ∀ (m1 : mmM), P1 m1 → ∀ (v1 : Int), ∀ (m2 : mmM), P2 v1 m2 → ∀ (m3 : mmM), P3 m3 → conv bX4_plan d4 [(2, 35)] m3 P4)
  (q1 : ∀ (m1 : mmM), P1 m1 → ∀ (v1 : Int), ∀ (m2 : mmM), P2 v1 m2 → ∀ (m3 : mmM), P3 m3 → ∀ (m4 : mmM), P4 m4 → P ((clearX m4) 23 1) (clearX m4))
  (hd_d1 : d1 + 1 ≤ d := by omega)
  (hd_d2 : d2 + 1 ≤ d := by omega)
  (hd_d3 : d3 + 1 ≤ d := by omega)
  (hd_d4 : d4 + 1 ≤ d := by omega)
  (hd3 : 3 ≤ d := by omega)
  : mmT bX11_takeBook d 0 0 (mQ 0 P) 0 [(2, 0)] [] mS mem := by
  refine st_aload_n (i := 0) rfl (t := 0) rfl (by decide) dX11_takeBook_0 ?_
  refine so_getA 0 0 fr_X11_10_10 rfl sh_0 fx_0_0 dX11_takeBook_1 ?_
  refine st_iconst dX11_takeBook_4 ?_
  refine so_putI 1 1 fr_X11_96_9 pf_9_1 fo_1_1 rfl sh_1 ⟨by decide, by decide⟩ dX11_takeBook_5 ?_
  refine st_aload_n (i := 0) rfl (t := 0) rfl (by decide) dX11_takeBook_8 ?_
  refine so_getA 0 4 fr_X11_42_10 rfl sh_0 fx_0_4 dX11_takeBook_9 ?_
  refine st_aload_n (i := 0) rfl (t := 0) rfl (by decide) dX11_takeBook_12 ?_
  refine so_getA 0 1 fr_X11_21_10 rfl sh_0 fx_0_1 dX11_takeBook_13 ?_
  refine st_callV (kc2 := 0) (ks2 := 0) (av := [(2, 3)]) 23 8 mr_X11_118 ok_X8_put c1 rfl sh_23 ⟨_, rfl, rfl, by decide⟩ rfl rfl hd_d1 (Nat.le_refl 0) (Nat.le_refl 0) (Nat.le_of_ble_eq_true rfl) dX11_takeBook_16 (mQv.elim fun m1 p1 => ?_)
  refine st_aload_n (i := 0) rfl (t := 0) rfl (by decide) dX11_takeBook_19 ?_
  refine so_getA 0 4 fr_X11_42_10 rfl sh_0 fx_0_4 dX11_takeBook_20 ?_
  refine st_aload_n (i := 0) rfl (t := 0) rfl (by decide) dX11_takeBook_23 ?_
  refine st_callV (kc2 := 0) (ks2 := 0) (av := []) 0 10 mr_X11_121 ok_X11_heldLaw (c2 m1 p1) rfl sh_0 ⟨_, rfl, rfl, by decide⟩ rfl rfl hd_d2 (Nat.le_refl 0) (Nat.le_refl 0) (Nat.le_of_ble_eq_true rfl) dX11_takeBook_24 (mQ.elim fun v1 m2 p2 => ?_)
  refine st_callV (kc2 := 0) (ks2 := 0) (av := [(2, v1)]) 23 8 mr_X11_125 ok_X8_weigh (c3 m1 p1 v1 m2 p2) rfl sh_23 ⟨_, rfl, rfl, by decide⟩ rfl rfl hd_d3 (Nat.le_refl 0) (Nat.le_refl 0) (Nat.le_of_ble_eq_true rfl) dX11_takeBook_27 (mQv.elim fun m3 p3 => ?_)
  refine st_aload_n (i := 0) rfl (t := 0) rfl (by decide) dX11_takeBook_30 ?_
  refine so_getA 0 5 fr_X11_51_10 rfl sh_0 fx_0_5 dX11_takeBook_31 ?_
  refine st_callV (kc2 := 0) (ks2 := 0) (av := []) 35 4 mr_X11_129 ok_X4_plan (c4 m1 p1 v1 m2 p2 m3 p3) rfl sh_35 ⟨_, rfl, rfl, by decide⟩ rfl rfl hd_d4 (Nat.le_refl 0) (Nat.le_refl 0) (Nat.le_of_ble_eq_true rfl) dX11_takeBook_34 (mQv.elim fun m4 p4 => ?_)
  refine st_aload_n (i := 0) rfl (t := 0) rfl (by decide) dX11_takeBook_37 ?_
  refine so_getA 0 6 fr_X11_58_10 rfl sh_0 fx_0_6 dX11_takeBook_38 ?_
  refine st_callV (kc2 := 0) (ks2 := 0) (av := []) 47 6 mr_X11_132 ok_X6_clear (c_X6_clear m4 ) rfl sh_47 ⟨_, rfl, rfl, by decide⟩ rfl rfl hd3 (Nat.le_refl 0) (Nat.le_refl 0) (Nat.le_of_ble_eq_true rfl) dX11_takeBook_41 (mQv.elim fun m5 hp => ?_)
  have hp := hp.symm
  subst hp
  refine st_aload_n (i := 0) rfl (t := 0) rfl (by decide) dX11_takeBook_44 ?_
  refine so_getA 0 4 fr_X11_42_10 rfl sh_0 fx_0_4 dX11_takeBook_45 ?_
  refine so_getI (v := ((clearX m4) 23 1)) 23 1 fr_X11_135_8 rfl sh_23 rfl dX11_takeBook_48 (fun r1 => ?_)
  exact st_ireturn rfl dX11_takeBook_51 (mQ.ret (q1 m1 p1 v1 m2 p2 m3 p3 m4 p4))
def readX (mem : mmM) : Prop := (0 ≤ mem 3 5 ∧ mem 3 5 ≤ 24) ∧ ∀ i, 0 ≤ i → i < mem 3 5 → (0 ≤ mem 4 i ∧ mem 4 i < 8) ∧ (0 ≤ mem 5 i ∧ mem 5 i < 26) ∧ (1 ≤ mem 6 i ∧ mem 6 i ≤ 99)
def lawsX (mem : mmM) (cl : lawT) : Prop := (-1 ≤ mem 0 12 ∧ mem 0 12 < 4) ∧ (mem 0 12 = 0 → (0 ≤ mem 11 1 ∧ mem 11 1 ≤ 160) ∧ lawX (mem 12) (mem 11 1) 0 cl) ∧ (mem 0 12 = 1 → (0 ≤ mem 14 1 ∧ mem 14 1 ≤ 160) ∧ lawX (mem 15) (mem 14 1) 0 cl) ∧ (mem 0 12 = 2 → (0 ≤ mem 17 1 ∧ mem 17 1 ≤ 160) ∧ lawX (mem 18) (mem 17 1) 0 cl) ∧ (mem 0 12 = 3 → (0 ≤ mem 20 1 ∧ mem 20 1 ≤ 160) ∧ lawX (mem 21) (mem 20 1) 0 cl)
theorem letterX_bnd {mem : mmM} (hn : 0 ≤ mem 23 1 ∧ mem 23 1 ≤ 24) (h : ∀ i, 0 ≤ i → i < mem 23 1 → (0 ≤ mem 24 i ∧ mem 24 i < 8) ∧ (0 ≤ mem 26 i ∧ mem 26 i ≤ 99) ∧ (0 ≤ mem 29 i ∧ mem 29 i ≤ 24) ∧ (0 ≤ mem 30 i ∧ mem 30 i ≤ 24)) (l s b : Int) : 0 ≤ letterX mem l s b ∧ letterX mem l s b ≤ 99 := by
  unfold letterX
  by_cases q : 0 ≤ s ∧ s < mem 23 1
  · have := h s q.1 q.2
    rw [if_pos q]
    split
    · omega
    · split
      · omega
      · split
        · omega
        · split
          · omega
          · split
            · omega
            · split <;> omega
  · rw [if_neg q]
    omega
theorem putP_bnd {mem m : mmM} (hr : readX mem) (h : putP mem m) : (0 ≤ m 23 1 ∧ m 23 1 ≤ 24) ∧ ∀ i, 0 ≤ i → i < m 23 1 → (0 ≤ m 24 i ∧ m 24 i < 8) ∧ (1 ≤ m 26 i ∧ m 26 i ≤ 99) ∧ (0 ≤ m 29 i ∧ m 29 i ≤ 24) ∧ (0 ≤ m 30 i ∧ m 30 i ≤ 24) := by
  obtain ⟨⟨w1, w2, w3, w4, w5⟩, w6⟩ := h
  have rg := keptS_rng (mem 7) (mem 3 5).toNat
  have hN := hr.1
  refine ⟨by omega, fun i i0 i1 => ?_⟩
  rw [w3] at i1
  have pl := keptS_place (mem 7) (mem 3 5).toNat i i0 i1
  have k4 := w4 i i0 i1
  have r := hr.2 _ pl.1 (by omega)
  have g := (w5 i i0 i1).2
  have gb := gapF_bnd (a := m 24) i0
  have lk := w6 i i0 (by omega)
  have lb := likesF_bnd (m 23 1) (m 24) (m 28) i (by omega)
  rw [k4.1, k4.2.2.1, g, lk]
  exact ⟨r.1, r.2.2, by omega, by omega⟩
def tookX (mem : mmM) (cl : lawT) (m : mmM) : Prop := ∃ m1 m3, putP (mset mem 1 1 0) m1 ∧ holdP m1 (mem 0 12) cl m3 ∧ m = clearX (planX m3)
theorem c_X11_takeBook (mem : mmM) (cl : lawT) (hr : readX mem) (hl : lawsX mem cl) : con 0 bX11_takeBook 6 [(2, 0)] mem (fun v m => v = (keptS (mem 7) (mem 3 5).toNat).1 ∧ tookX mem cl m) := by
  have s3 : mset mem 1 1 0 3 = mem 3 := mset_ne (by decide)
  have hr' : readX (mset mem 1 1 0) := by
    unfold readX
    rw [s3, mset_ne (show (4 : Nat) ≠ 1 by decide), mset_ne (show (5 : Nat) ≠ 1 by decide), mset_ne (show (6 : Nat) ≠ 1 by decide)]
    exact hr
  have f0 : ∀ m1, putP (mset mem 1 1 0) m1 → ∀ a, (a < 23 ∨ 30 < a) → a ≠ 1 → m1 a = mem a := fun m1 q a ha a1 => (q.1.1 a ha).trans (mset_ne a1)
  refine cn_X11_takeBook (bk_X11_takeBook_0 (d1 := 4) (d2 := 0) (d3 := 5) (d4 := 5) (P1 := putP (mset mem 1 1 0)) (P2 := fun v m => v = lawRef (mem 0 12) ∧ putP (mset mem 1 1 0) m) (P3 := fun m => ∃ m1, putP (mset mem 1 1 0) m1 ∧ holdP m1 (mem 0 12) cl m) (P4 := fun m => ∃ m1 m3, putP (mset mem 1 1 0) m1 ∧ holdP m1 (mem 0 12) cl m3 ∧ m = planX m3) (c_X8_put _ (by rw [s3]; exact hr.1)) (fun m1 q1 => ?_) (fun m1 q1 v1 m2 q2 => ?_) (fun m1 q1 v1 m2 q2 m3 q3 => ?_) (fun m1 q1 v1 m2 q2 m3 q3 m4 q4 => ?_))
  · have e0 := f0 m1 q1 0 (by omega) (by decide)
    have c := heldLaw_any m1 (by rw [e0]; exact hl.1)
    rw [e0] at c
    exact con.mono c (fun v m q => ⟨q.1, by rw [q.2]; exact q1⟩)
  · rw [q2.1]
    have e0 := f0 m2 q2.2 0 (by omega) (by decide)
    have b := putP_bnd hr' q2.2
    have c := weigh_held m2 cl (by rw [e0]; exact hl.1) b.1 (fun i b' k i0 i1 _ => by
        have := letterX_bnd b.1 (fun i i0 i1 => by
          have z := b.2 i i0 i1
          exact ⟨z.1, ⟨by omega, z.2.1.2⟩, z.2.2⟩) (leF k) i b'
        omega)
      (by rw [e0, f0 m2 q2.2 11 (by omega) (by decide), f0 m2 q2.2 12 (by omega) (by decide)]; exact hl.2.1)
      (by rw [e0, f0 m2 q2.2 14 (by omega) (by decide), f0 m2 q2.2 15 (by omega) (by decide)]; exact hl.2.2.1)
      (by rw [e0, f0 m2 q2.2 17 (by omega) (by decide), f0 m2 q2.2 18 (by omega) (by decide)]; exact hl.2.2.2.1)
      (by rw [e0, f0 m2 q2.2 20 (by omega) (by decide), f0 m2 q2.2 21 (by omega) (by decide)]; exact hl.2.2.2.2)
    rw [e0] at c
    exact conv.mono c (fun m q => ⟨m2, q2.2, q⟩)
  · obtain ⟨m1', p1, p3⟩ := q3
    have b := putP_bnd hr' p1
    have e23 : m3 23 = m1' 23 := p3.1 23 (by omega) (by decide) (by decide) (by decide)
    have e24 : m3 24 = m1' 24 := p3.1 24 (by omega) (by decide) (by decide) (by decide)
    have c := c_X4_plan m3 (by rw [e23]; exact b.1) (by rw [e23, e24]; exact fun i i0 i1 => (b.2 i i0 i1).1)
    exact conv.mono c (fun m q => ⟨m1', m3, p1, p3, q⟩)
  · obtain ⟨m1', m3', p1, p3, rfl⟩ := q4
    refine ⟨?_, m1', m3', p1, p3, rfl⟩
    have e23 : clearX (planX m3') 23 = m3' 23 := (clearX_else _ (by decide) (by decide)).trans (planX_else _ (by decide))
    rw [e23, p3.1 23 (by omega) (by decide) (by decide) (by decide), p1.1.2.2.1, s3, mset_ne (by decide)]
