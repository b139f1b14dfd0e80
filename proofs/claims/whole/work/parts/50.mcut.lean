/-! the model reads a cut -/
theorem popc_add {x k : Int} (h0 : 0 ≤ x) (k0 : 0 ≤ k) (k1 : k < 24) (h : x < p2 k) : popc (x + p2 k) = popc x + 1 := by
  have f : tb x k = false := tb_big h0 h (Int.le_refl _)
  have p := p2_pos k
  have a := tb_add h0 (b := 24) (by have := p2_mono (i := k) (j := 24) (by omega); omega) k0 k1 (by decide) f
  have t : tb (x + p2 k) k = true := by
    rw [a.2.2 k k0, f]
    simp
  have s := popc_sub (x := x + p2 k) (by omega) k0 k1 t
  rw [show x + p2 k - p2 k = x by omega] at s
  omega
/-- how the model's bits say which speeches are cut -/
def cutRel (c lo left cnt : Int) (K : Int → Int) : Prop := 0 ≤ c ∧ ((lo = -1 ∧ c = 0) ∨ (0 ≤ lo ∧ p2 lo ≤ c ∧ c < p2 (lo + 1))) ∧ popc c = cnt - left ∧ ∀ i, 0 ≤ i → i < 24 → (K i = 0 ↔ tb c i = false)
theorem cutRel_lt {c lo left cnt : Int} {K : Int → Int} (h : cutRel c lo left cnt K) : c < p2 (lo + 1) := by
  rcases h.2.1 with ⟨h1, h2⟩ | ⟨-, -, h3⟩
  · rw [h2]
    exact p2_pos _
  · exact h3
/-- while the bits from a on are set -/
def cutMid (c a i left cnt : Int) (K : Int → Int) : Prop := (0 ≤ c ∧ c < p2 i) ∧ (a < i → p2 (i - 1) ≤ c) ∧ popc c = cnt - (left - (i - a)) ∧ ∀ j, 0 ≤ j → j < 24 → (setK K a (i - 1) j = 0 ↔ tb c j = false)
theorem cutMid_0 {c lo left cnt a : Int} {K : Int → Int} (h : cutRel c lo left cnt K) (ha : lo < a) : cutMid c a a left cnt K := by
  have lt := cutRel_lt h
  have mo := p2_mono (i := lo + 1) (j := a) (by omega)
  refine ⟨⟨h.1, by omega⟩, fun g => by omega, by rw [h.2.2.1]; omega, fun j j0 j1 => ?_⟩
  rw [setK_none]
  exact h.2.2.2 j j0 j1
theorem cutMid_step {c a i left cnt : Int} {K : Int → Int} (h : cutMid c a i left cnt K) (a0 : 0 ≤ a) (hi : a ≤ i) (i1 : i < 24) : cutMid (or32 c (shl32 1 i)) a (i + 1) left cnt K := by
  obtain ⟨⟨c0, c1⟩, h2, h3, h4⟩ := h
  have f : tb c i = false := tb_big c0 c1 (Int.le_refl _)
  have ad := tb_add c0 (b := 24) (by have := p2_mono (i := i) (j := 24) (by omega); omega) (show 0 ≤ i by omega) i1 (by decide) f
  have su := p2_succ (i := i) (by omega)
  rw [ad.2.1]
  refine ⟨⟨ad.1.1, by omega⟩, fun _ => by rw [show i + 1 - 1 = i by omega]; omega, by rw [popc_add c0 (by omega) i1 c1, h3]; omega, fun j j0 j1 => ?_⟩
  rw [show i + 1 - 1 = i by omega, ← setK_step K hi, ad.2.2 j j0]
  unfold updF
  by_cases q : j = i
  · rw [if_pos q, decide_eq_true q.symm, Bool.or_true]
    constructor <;> (intro z; cases z)
  · rw [if_neg q, decide_eq_false (fun z => q z.symm), Bool.or_false]
    exact h4 j j0 j1
theorem cutMid_end {c a b left cnt : Int} {K : Int → Int} (h : cutMid c a (b + 1) left cnt K) (a0 : 0 ≤ a) (hb : a ≤ b) : cutRel c b (left - (b - a + 1)) cnt (setK K a b) := by
  obtain ⟨⟨c0, c1⟩, h2, h3, h4⟩ := h
  rw [show b + 1 - 1 = b by omega] at h2 h4
  exact ⟨c0, Or.inr ⟨by omega, h2 (by omega), c1⟩, by rw [h3]; omega, h4⟩
theorem cn_X12_cutText {d : Nat} {P : mmM → Prop} {mem : mmM} {x1 : Int} (h : mmT bX12_cutText d 0 0 (mQv P) 0 [(2, 65), (0, x1), (9, 0), (9, 0), (9, 0)] [] mS mem) : conv bX12_cutText d [(2, 65), (0, x1)] mem P := mmC_of [(2, 65), (0, x1), (9, 0), (9, 0), (9, 0)] ok_X12_cutText.2.2.2.2 rfl (Nat.le_of_ble_eq_true rfl) h
theorem bk_X12_cutText_0 {d : Nat} {d1 : Nat} {P1 : Int → mmM → Prop} {P : mmM → Prop} {mem : mmM} {x1 : Int}
  (c1 : con 0 bX12_digits d1 [(2, 65)] mem P1)
  (k1 : ∀ (v1 : Int), ∀ (m1 : mmM), P1 v1 m1 → ((x1 + 1) ≤ v1 ∧ v1 ≤ ((m1 65 20) - 1)) → mmT bX12_cutText d 0 0 (mQv P) 25 [(2, 65), (9, 0), (0, v1), (9, 0), (9, 0)] [] mS m1)
  (k2 : ∀ (v1 : Int), ∀ (m1 : mmM), P1 v1 m1 → ¬ ((x1 + 1) ≤ v1 ∧ v1 ≤ ((m1 65 20) - 1)) → mmT bX12_cutText d 0 0 (mQv P) 25 [(2, 65), (9, 0), (0, v1), (9, 0), (9, 0)] [] mS (lastM m1))
  (hd_d1 : d1 + 1 ≤ d := by omega)
  (hd2 : 2 ≤ d := by omega)
  (s1 : ∀ (v1 : Int), ∀ (m1 : mmM), P1 v1 m1 → R32 v1 := by intros; first | omega | assumption | solve_by_elim)
  (s2 : ∀ (v1 : Int), ∀ (m1 : mmM), P1 v1 m1 → R32 (x1 + 1) := by intros; first | omega | assumption | solve_by_elim)
  (s3 : ∀ (v1 : Int), ∀ (m1 : mmM), P1 v1 m1 → R32 ((m1 65 20) - 1) := by intros; first | omega | assumption | solve_by_elim)
  (s4 : ∀ (v1 : Int), ∀ (m1 : mmM), P1 v1 m1 → ¬ ((x1 + 1) ≤ v1 ∧ v1 ≤ ((m1 65 20) - 1)) → R32 ((m1 65 3) - 1) := by intros; first | omega | assumption | solve_by_elim)
  : mmT bX12_cutText d 0 0 (mQv P) 0 [(2, 65), (0, x1), (9, 0), (9, 0), (9, 0)] [] mS mem := by
  refine st_aload_n (i := 0) rfl (t := 0) rfl (by decide) dX12_cutText_0 ?_
  refine st_callV (kc2 := 0) (ks2 := 0) (av := []) 65 11 mr_X12_233 ok_X12_digits c1 rfl sh_65 ⟨_, rfl, rfl, by decide⟩ rfl rfl hd_d1 (Nat.le_refl 0) (Nat.le_refl 0) (Nat.le_of_ble_eq_true rfl) dX12_cutText_1 (mQ.elim fun v1 m1 p1 => ?_)
  refine st_istore_n (i := 2) rfl (by decide) (lc' := [(2, 65), (0, x1), (0, v1), (9, 0), (9, 0)]) rfl dX12_cutText_4 ?_
  refine st_iload_n (i := 2) rfl rfl dX12_cutText_5 ?_
  refine st_iload_n (i := 1) rfl rfl dX12_cutText_6 ?_
  refine st_iconst dX12_cutText_7 ?_
  refine st_iadd dX12_cutText_8 ?_
  refine st_aload_n (i := 0) rfl (t := 0) rfl (by decide) dX12_cutText_9 ?_
  refine so_getI (v := (m1 65 20)) 65 20 fr_X12_239_11 rfl sh_65 rfl dX12_cutText_10 (fun r1 => ?_)
  refine st_iconst dX12_cutText_13 ?_
  refine st_isub dX12_cutText_14 ?_
  refine st_callS (kc2 := 0) (ks2 := 0) (av := [(0, v1), (0, (x1 + 1)), (0, ((m1 65 20) - 1))]) mr_X12_229 ok_X12_in (c_X12_in m1 v1 (x1 + 1) ((m1 65 20) - 1) ((s1 v1 m1 p1)) ((s2 v1 m1 p1)) ((s3 v1 m1 p1))) rfl rfl hd2 (Nat.le_refl 0) (Nat.le_refl 0) (Nat.le_of_ble_eq_true rfl) dX12_cutText_15 (mQ.elim fun v2 m2 hp => ?_)
  obtain ⟨hpv, hpm⟩ := hp
  subst hpv
  have hpm := hpm.symm
  subst hpm
  refine so_ifneB 25 (by decide) dX12_cutText_18 (fun h1 => ?_) (fun h1 => ?_)
  · have h1 : ((x1 + 1) ≤ v1 ∧ v1 ≤ ((m1 65 20) - 1)) := h1
    exact st_locals [(2, 65), (9, 0), (0, v1), (9, 0), (9, 0)] ⟨Or.inr rfl, Or.inl rfl, Or.inr rfl, Or.inl rfl, Or.inl rfl, trivial⟩ (k1 v1 m1 p1 h1)
  · have h1 : ¬ ((x1 + 1) ≤ v1 ∧ v1 ≤ ((m1 65 20) - 1)) := h1
    refine st_aload_n (i := 0) rfl (t := 0) rfl (by decide) dX12_cutText_21 ?_
    refine st_callV (kc2 := 0) (ks2 := 0) (av := []) 65 11 mr_X12_236 ok_X12_lastBad (c_X12_lastBad m1 ((s4 v1 m1 p1 h1))) rfl sh_65 ⟨_, rfl, rfl, by decide⟩ rfl rfl hd2 (Nat.le_refl 0) (Nat.le_refl 0) (Nat.le_of_ble_eq_true rfl) dX12_cutText_22 (mQv.elim fun m3 hp => ?_)
    have hp := hp.symm
    subst hp
    exact st_locals [(2, 65), (9, 0), (0, v1), (9, 0), (9, 0)] ⟨Or.inr rfl, Or.inl rfl, Or.inr rfl, Or.inl rfl, Or.inl rfl, trivial⟩ (k2 v1 m1 p1 h1)
theorem bk_X12_cutText_25 {d : Nat} {P : mmM → Prop} {mem : mmM} {x2 : Int}
  (k1 : ¬ (mem 65 4) = (-1) → mmT bX12_cutText d 0 0 (mQv P) 46 [(2, 65), (9, 0), (0, x2), (9, 0), (9, 0)] [] mS mem)
  (k2 : (mem 65 4) = (-1) → (hereM (lookM mem)) = 45 → mmT bX12_cutText d 0 0 (mQv P) 46 [(2, 65), (9, 0), (0, x2), (9, 0), (9, 0)] [] mS (lookM mem))
  (k3 : (mem 65 4) = (-1) → ¬ (hereM (lookM mem)) = 45 → mmT bX12_cutText d 0 0 (mQv P) 46 [(2, 65), (9, 0), (0, x2), (9, 0), (9, 0)] [] mS (badM (lookM mem)))
  (hd1 : 1 ≤ d := by omega)
  (hd2 : 2 ≤ d := by omega)
  (s1 : (mem 65 4) = (-1) → bytM mem := by intros; first | omega | assumption | solve_by_elim)
  (s2 : (mem 65 4) = (-1) → 0 ≤ (mem 65 3) := by intros; first | omega | assumption | solve_by_elim)
  : mmT bX12_cutText d 0 0 (mQv P) 25 [(2, 65), (9, 0), (0, x2), (9, 0), (9, 0)] [] mS mem := by
  refine st_aload_n (i := 0) rfl (t := 0) rfl (by decide) dX12_cutText_25 ?_
  refine so_getI (v := (mem 65 4)) 65 4 fr_X12_131_11 rfl sh_65 rfl dX12_cutText_26 (fun r1 => ?_)
  refine st_iconst dX12_cutText_29 ?_
  refine sr_icmp_ne 46 r1 ⟨by decide, by decide⟩ (by decide) dX12_cutText_30 (fun h1 => ?_) (fun h1 => ?_)
  · have h1 : ¬ (mem 65 4) = (-1) := by omega
    exact st_locals [(2, 65), (9, 0), (0, x2), (9, 0), (9, 0)] ⟨Or.inr rfl, Or.inl rfl, Or.inr rfl, Or.inl rfl, Or.inl rfl, trivial⟩ (k1 h1)
  · have h1 : (mem 65 4) = (-1) := by omega
    refine st_aload_n (i := 0) rfl (t := 0) rfl (by decide) dX12_cutText_33 ?_
    refine st_callV (kc2 := 0) (ks2 := 0) (av := []) 65 11 mr_X12_143 ok_X12_look (c_X12_look mem ((s1 h1)) ((s2 h1))) rfl sh_65 ⟨_, rfl, rfl, by decide⟩ rfl rfl hd2 (Nat.le_refl 0) (Nat.le_refl 0) (Nat.le_of_ble_eq_true rfl) dX12_cutText_34 (mQ.elim fun v1 m1 hp => ?_)
    obtain ⟨hpv, hpm⟩ := hp
    subst hpv
    have hpm := hpm.symm
    subst hpm
    refine st_bipush rfl dX12_cutText_37 ?_
    refine sr_icmp_eq 46 (lookM_rng mem ((s1 h1)) ((s2 h1))) ⟨by decide, by decide⟩ (by decide) dX12_cutText_39 (fun h2 => ?_) (fun h2 => ?_)
    · have h2 : (hereM (lookM mem)) = 45 := by omega
      exact st_locals [(2, 65), (9, 0), (0, x2), (9, 0), (9, 0)] ⟨Or.inr rfl, Or.inl rfl, Or.inr rfl, Or.inl rfl, Or.inl rfl, trivial⟩ (k2 h1 h2)
    · have h2 : ¬ (hereM (lookM mem)) = 45 := by omega
      refine st_aload_n (i := 0) rfl (t := 0) rfl (by decide) dX12_cutText_42 ?_
      refine st_callV (kc2 := 0) (ks2 := 0) (av := []) 65 11 mr_X12_140 ok_X12_bad (c_X12_bad (lookM mem) ) rfl sh_65 ⟨_, rfl, rfl, by decide⟩ rfl rfl hd1 (Nat.le_refl 0) (Nat.le_refl 0) (Nat.le_of_ble_eq_true rfl) dX12_cutText_43 (mQv.elim fun m2 hp => ?_)
      have hp := hp.symm
      subst hp
      exact st_locals [(2, 65), (9, 0), (0, x2), (9, 0), (9, 0)] ⟨Or.inr rfl, Or.inl rfl, Or.inr rfl, Or.inl rfl, Or.inl rfl, trivial⟩ (k3 h1 h2)
theorem bk_X12_cutText_46 {d : Nat} {d1 : Nat} {P1 : Int → mmM → Prop} {P : mmM → Prop} {mem : mmM} {x2 : Int}
  (c1 : (mem 65 4) = (-1) → con 0 bX12_digits d1 [(2, 65)] (mset mem 65 3 ((mem 65 3) + 1)) P1)
  (k1 : (mem 65 4) = (-1) → ∀ (v1 : Int), ∀ (m1 : mmM), P1 v1 m1 → ¬ (x2 ≤ v1 ∧ v1 ≤ ((m1 65 20) - 1)) → mmT bX12_cutText d 0 0 (mQv P) 110 [(2, 65), (9, 0), (0, x2), (0, v1), (9, 0)] [] mS (lastM m1))
  (k2 : (mem 65 4) = (-1) → ∀ (v1 : Int), ∀ (m1 : mmM), P1 v1 m1 → (x2 ≤ v1 ∧ v1 ≤ ((m1 65 20) - 1)) → 2 ≤ (((m1 65 20) - (bcS (m1 65 21))) - ((v1 - x2) + 1)) → mmT bX12_cutText d 0 0 (mQv P) 110 [(2, 65), (9, 0), (0, x2), (0, v1), (9, 0)] [] mS m1)
  (k3 : (mem 65 4) = (-1) → ∀ (v1 : Int), ∀ (m1 : mmM), P1 v1 m1 → (x2 ≤ v1 ∧ v1 ≤ ((m1 65 20) - 1)) → (((m1 65 20) - (bcS (m1 65 21))) - ((v1 - x2) + 1)) < 2 → mmT bX12_cutText d 0 0 (mQv P) 110 [(2, 65), (9, 0), (0, x2), (0, v1), (9, 0)] [] mS (lastM m1))
  (q1 : ¬ (mem 65 4) = (-1) → P mem)
  (hd_d1 : d1 + 1 ≤ d := by omega)
  (hd2 : 2 ≤ d := by omega)
  (s1 : (mem 65 4) = (-1) → R32 ((mem 65 3) + 1) := by intros; first | omega | assumption | solve_by_elim)
  (s2 : (mem 65 4) = (-1) → ∀ (v1 : Int), ∀ (m1 : mmM), P1 v1 m1 → R32 v1 := by intros; first | omega | assumption | solve_by_elim)
  (s3 : (mem 65 4) = (-1) → ∀ (v1 : Int), ∀ (m1 : mmM), P1 v1 m1 → R32 x2 := by intros; first | omega | assumption | solve_by_elim)
  (s4 : (mem 65 4) = (-1) → ∀ (v1 : Int), ∀ (m1 : mmM), P1 v1 m1 → R32 ((m1 65 20) - 1) := by intros; first | omega | assumption | solve_by_elim)
  (s5 : (mem 65 4) = (-1) → ∀ (v1 : Int), ∀ (m1 : mmM), P1 v1 m1 → ¬ (x2 ≤ v1 ∧ v1 ≤ ((m1 65 20) - 1)) → R32 ((m1 65 3) - 1) := by intros; first | omega | assumption | solve_by_elim)
  (s6 : (mem 65 4) = (-1) → ∀ (v1 : Int), ∀ (m1 : mmM), P1 v1 m1 → (x2 ≤ v1 ∧ v1 ≤ ((m1 65 20) - 1)) → R32 (((m1 65 20) - (bcS (m1 65 21))) - ((v1 - x2) + 1)) := by intros; first | omega | assumption | solve_by_elim)
  (s7 : (mem 65 4) = (-1) → ∀ (v1 : Int), ∀ (m1 : mmM), P1 v1 m1 → (x2 ≤ v1 ∧ v1 ≤ ((m1 65 20) - 1)) → (((m1 65 20) - (bcS (m1 65 21))) - ((v1 - x2) + 1)) < 2 → R32 ((m1 65 3) - 1) := by intros; first | omega | assumption | solve_by_elim)
  : mmT bX12_cutText d 0 0 (mQv P) 46 [(2, 65), (9, 0), (0, x2), (9, 0), (9, 0)] [] mS mem := by
  refine st_aload_n (i := 0) rfl (t := 0) rfl (by decide) dX12_cutText_46 ?_
  refine so_getI (v := (mem 65 4)) 65 4 fr_X12_131_11 rfl sh_65 rfl dX12_cutText_47 (fun r1 => ?_)
  refine st_iconst dX12_cutText_50 ?_
  refine sr_icmp_eq 55 r1 ⟨by decide, by decide⟩ (by decide) dX12_cutText_51 (fun h1 => ?_) (fun h1 => ?_)
  · have h1 : (mem 65 4) = (-1) := by omega
    refine st_aload_n (i := 0) rfl (t := 0) rfl (by decide) dX12_cutText_55 ?_
    refine st_dup (Nat.ne_of_beq_eq_false rfl) dX12_cutText_56 ?_
    refine so_getI (v := (mem 65 3)) 65 3 fr_X12_124_11 rfl sh_65 rfl dX12_cutText_57 (fun r2 => ?_)
    refine st_iconst dX12_cutText_60 ?_
    refine st_iadd dX12_cutText_61 ?_
    refine so_putI 65 3 fr_X12_124_11 pf_11_3 fo_65_3 rfl sh_65 (s1 h1) dX12_cutText_62 ?_
    refine st_aload_n (i := 0) rfl (t := 0) rfl (by decide) dX12_cutText_65 ?_
    refine st_callV (kc2 := 0) (ks2 := 0) (av := []) 65 11 mr_X12_233 ok_X12_digits (c1 h1) rfl sh_65 ⟨_, rfl, rfl, by decide⟩ rfl rfl hd_d1 (Nat.le_refl 0) (Nat.le_refl 0) (Nat.le_of_ble_eq_true rfl) dX12_cutText_66 (mQ.elim fun v1 m1 p1 => ?_)
    refine st_istore_n (i := 3) rfl (by decide) (lc' := [(2, 65), (9, 0), (0, x2), (0, v1), (9, 0)]) rfl dX12_cutText_69 ?_
    refine st_iload_n (i := 3) rfl rfl dX12_cutText_70 ?_
    refine st_iload_n (i := 2) rfl rfl dX12_cutText_71 ?_
    refine st_aload_n (i := 0) rfl (t := 0) rfl (by decide) dX12_cutText_72 ?_
    refine so_getI (v := (m1 65 20)) 65 20 fr_X12_239_11 rfl sh_65 rfl dX12_cutText_73 (fun r3 => ?_)
    refine st_iconst dX12_cutText_76 ?_
    refine st_isub dX12_cutText_77 ?_
    refine st_callS (kc2 := 0) (ks2 := 0) (av := [(0, v1), (0, x2), (0, ((m1 65 20) - 1))]) mr_X12_229 ok_X12_in (c_X12_in m1 v1 x2 ((m1 65 20) - 1) ((s2 h1 v1 m1 p1)) ((s3 h1 v1 m1 p1)) ((s4 h1 v1 m1 p1))) rfl rfl hd2 (Nat.le_refl 0) (Nat.le_refl 0) (Nat.le_of_ble_eq_true rfl) dX12_cutText_78 (mQ.elim fun v2 m2 hp => ?_)
    obtain ⟨hpv, hpm⟩ := hp
    subst hpv
    have hpm := hpm.symm
    subst hpm
    refine so_ifeqB 106 (by decide) dX12_cutText_81 (fun h2 => ?_) (fun h2 => ?_)
    · have h2 : ¬ (x2 ≤ v1 ∧ v1 ≤ ((m1 65 20) - 1)) := h2
      refine st_aload_n (i := 0) rfl (t := 0) rfl (by decide) dX12_cutText_106 ?_
      refine st_callV (kc2 := 0) (ks2 := 0) (av := []) 65 11 mr_X12_236 ok_X12_lastBad (c_X12_lastBad m1 ((s5 h1 v1 m1 p1 h2))) rfl sh_65 ⟨_, rfl, rfl, by decide⟩ rfl rfl hd2 (Nat.le_refl 0) (Nat.le_refl 0) (Nat.le_of_ble_eq_true rfl) dX12_cutText_107 (mQv.elim fun m3 hp => ?_)
      have hp := hp.symm
      subst hp
      exact st_locals [(2, 65), (9, 0), (0, x2), (0, v1), (9, 0)] ⟨Or.inr rfl, Or.inl rfl, Or.inr rfl, Or.inr rfl, Or.inl rfl, trivial⟩ (k1 h1 v1 m1 p1 h2)
    · have h2 : (x2 ≤ v1 ∧ v1 ≤ ((m1 65 20) - 1)) := h2
      refine st_aload_n (i := 0) rfl (t := 0) rfl (by decide) dX12_cutText_84 ?_
      refine so_getI (v := (m1 65 20)) 65 20 fr_X12_239_11 rfl sh_65 rfl dX12_cutText_85 (fun r4 => ?_)
      refine st_aload_n (i := 0) rfl (t := 0) rfl (by decide) dX12_cutText_88 ?_
      refine so_getI (v := (m1 65 21)) 65 21 fr_X12_242_11 rfl sh_65 rfl dX12_cutText_89 (fun r5 => ?_)
      refine st_callS (kc2 := 0) (ks2 := 0) (av := [(0, (m1 65 21))]) mr_X12_245 ok_J6_bitCount_0f7a4 (c_bitCount m1 (m1 65 21) ) rfl rfl hd2 (Nat.le_refl 0) (Nat.le_refl 0) (Nat.le_of_ble_eq_true rfl) dX12_cutText_92 (mQ.elim fun v3 m4 hp => ?_)
      obtain ⟨hpv, hpm⟩ := hp
      subst hpv
      have hpm := hpm.symm
      subst hpm
      refine st_isub dX12_cutText_95 ?_
      refine st_iload_n (i := 3) rfl rfl dX12_cutText_96 ?_
      refine st_iload_n (i := 2) rfl rfl dX12_cutText_97 ?_
      refine st_isub dX12_cutText_98 ?_
      refine st_iconst dX12_cutText_99 ?_
      refine st_iadd dX12_cutText_100 ?_
      refine st_isub dX12_cutText_101 ?_
      refine st_iconst dX12_cutText_102 ?_
      refine sr_icmp_ge 110 (s6 h1 v1 m1 p1 h2) ⟨by decide, by decide⟩ (by decide) dX12_cutText_103 (fun h3 => ?_) (fun h3 => ?_)
      · have h3 : 2 ≤ (((m1 65 20) - (bcS (m1 65 21))) - ((v1 - x2) + 1)) := by omega
        exact st_locals [(2, 65), (9, 0), (0, x2), (0, v1), (9, 0)] ⟨Or.inr rfl, Or.inl rfl, Or.inr rfl, Or.inr rfl, Or.inl rfl, trivial⟩ (k2 h1 v1 m1 p1 h2 h3)
      · have h3 : (((m1 65 20) - (bcS (m1 65 21))) - ((v1 - x2) + 1)) < 2 := by omega
        refine st_aload_n (i := 0) rfl (t := 0) rfl (by decide) dX12_cutText_106 ?_
        refine st_callV (kc2 := 0) (ks2 := 0) (av := []) 65 11 mr_X12_236 ok_X12_lastBad (c_X12_lastBad m1 ((s7 h1 v1 m1 p1 h2 h3))) rfl sh_65 ⟨_, rfl, rfl, by decide⟩ rfl rfl hd2 (Nat.le_refl 0) (Nat.le_refl 0) (Nat.le_of_ble_eq_true rfl) dX12_cutText_107 (mQv.elim fun m5 hp => ?_)
        have hp := hp.symm
        subst hp
        exact st_locals [(2, 65), (9, 0), (0, x2), (0, v1), (9, 0)] ⟨Or.inr rfl, Or.inl rfl, Or.inr rfl, Or.inr rfl, Or.inl rfl, trivial⟩ (k3 h1 v1 m1 p1 h2 h3)
  · have h1 : ¬ (mem 65 4) = (-1) := by omega
    exact st_return rfl dX12_cutText_54 (mQv.ret (q1 h1))
theorem bk_X12_cutText_110 {d : Nat} {P : mmM → Prop} {mem : mmM} {x2 x3 : Int}
  (k1 : mmT bX12_cutText d 0 0 (mQv P) 113 [(2, 65), (9, 0), (9, 0), (0, x3), (0, x2)] [] mS mem)
  : mmT bX12_cutText d 0 0 (mQv P) 110 [(2, 65), (9, 0), (0, x2), (0, x3), (9, 0)] [] mS mem := by
  refine st_iload_n (i := 2) rfl rfl dX12_cutText_110 ?_
  refine st_istore (by decide) (lc' := [(2, 65), (9, 0), (0, x2), (0, x3), (0, x2)]) rfl dX12_cutText_111 ?_
  exact st_locals [(2, 65), (9, 0), (9, 0), (0, x3), (0, x2)] ⟨Or.inr rfl, Or.inl rfl, Or.inl rfl, Or.inr rfl, Or.inr rfl, trivial⟩ k1
theorem bk_X12_cutText_113 {d : Nat} {P : mmM → Prop} {mem : mmM} {x3 x4 : Int}
  (k1 : x4 ≤ x3 → (mem 65 4) = (-1) → mmT bX12_cutText d 0 0 (mQv P) 113 [(2, 65), (9, 0), (9, 0), (0, x3), (0, (x4 + 1))] [] mS (mset mem 65 21 (or32 (mem 65 21) (shl32 1 x4))))
  (q1 : x3 < x4 → P mem)
  (q2 : x4 ≤ x3 → ¬ (mem 65 4) = (-1) → P mem)
  (s1 : R32 x4 := by intros; first | omega | assumption | solve_by_elim)
  (s2 : R32 x3 := by intros; first | omega | assumption | solve_by_elim)
  : mmT bX12_cutText d 0 0 (mQv P) 113 [(2, 65), (9, 0), (9, 0), (0, x3), (0, x4)] [] mS mem := by
  refine st_iload rfl dX12_cutText_113 ?_
  refine st_iload_n (i := 3) rfl rfl dX12_cutText_115 ?_
  refine sr_icmp_gt 146 s1 s2 (by decide) dX12_cutText_116 (fun h1 => ?_) (fun h1 => ?_)
  · have h1 : x3 < x4 := by omega
    exact st_return rfl dX12_cutText_146 (mQv.ret (q1 h1))
  · have h1 : x4 ≤ x3 := by omega
    refine st_aload_n (i := 0) rfl (t := 0) rfl (by decide) dX12_cutText_119 ?_
    refine so_getI (v := (mem 65 4)) 65 4 fr_X12_131_11 rfl sh_65 rfl dX12_cutText_120 (fun r1 => ?_)
    refine st_iconst dX12_cutText_123 ?_
    refine sr_icmp_ne 146 r1 ⟨by decide, by decide⟩ (by decide) dX12_cutText_124 (fun h2 => ?_) (fun h2 => ?_)
    · have h2 : ¬ (mem 65 4) = (-1) := by omega
      exact st_return rfl dX12_cutText_146 (mQv.ret (q2 h1 h2))
    · have h2 : (mem 65 4) = (-1) := by omega
      refine st_aload_n (i := 0) rfl (t := 0) rfl (by decide) dX12_cutText_127 ?_
      refine st_dup (Nat.ne_of_beq_eq_false rfl) dX12_cutText_128 ?_
      refine so_getI (v := (mem 65 21)) 65 21 fr_X12_242_11 rfl sh_65 rfl dX12_cutText_129 (fun r2 => ?_)
      refine st_iconst dX12_cutText_132 ?_
      refine st_iload rfl dX12_cutText_133 ?_
      refine st_ishl dX12_cutText_135 ?_
      refine st_ior dX12_cutText_136 ?_
      refine so_putI 65 21 fr_X12_242_11 pf_11_21 fo_65_21 rfl sh_65 (or32_rng (mem 65 21) (shl32 1 x4)) dX12_cutText_137 ?_
      refine st_iinc (y := (x4 + 1)) (by decide) (i := 4) rfl rfl (lc' := [(2, 65), (9, 0), (9, 0), (0, x3), (0, (x4 + 1))]) rfl dX12_cutText_140 ?_
      refine st_goto 113 (by decide) dX12_cutText_143 ?_
      exact st_locals [(2, 65), (9, 0), (9, 0), (0, x3), (0, (x4 + 1))] ⟨Or.inr rfl, Or.inl rfl, Or.inl rfl, Or.inr rfl, Or.inr rfl, trivial⟩ (k1 h1 h2)
def cutM (mem : mmM) (K : Int → Int) (left : Int) : Int ⊕ (Int × Int × Int) → mmM → Prop
  | .inl f, m => m 65 4 = f ∧ 0 ≤ f ∧ mFr mem m ∧ m 65 20 = mem 65 20 ∧ (0 ≤ m 65 3 ∧ m 65 3 ≤ mem 65 2)
  | .inr (t, a, b), m => m 65 4 = -1 ∧ mFr mem m ∧ m 65 20 = mem 65 20 ∧ m 65 3 = t ∧ cutRel (m 65 21) b (left - (b - a + 1)) (mem 65 20) (setK K a b) ∧ m 76 = mem 76 ∧ m 77 = mem 77 ∧ m 78 = mem 78
theorem hereM_is (m : mmM) {j c : Int} (h0 : 0 ≤ j) (hc : 0 < c) : hereM (cuM m j) = c ↔ CM m j = c := by
  rcases hereM_cu m h0 with q | q
  · rw [q.2]
  · rw [q.2.1, q.2.2]
    constructor <;> (intro z; omega)
theorem c_X12_cutText (mem : mmM) (hb : bytM mem) {j lo left : Int} {K : Int → Int} (h0 : 0 ≤ j) (h1 : j ≤ mem 65 2) (hw : mem 65 4 = -1) (hc : 0 ≤ mem 65 20 ∧ mem 65 20 ≤ 24) (hlo : -1 ≤ lo ∧ lo < 24) (hr : cutRel (mem 65 21) lo left (mem 65 20) K) (hl : left ≤ 24) : conv bX12_cutText 3 [(2, 65), (0, lo)] (cuM mem j) (cutM mem K left (cutS (CM mem) (SM mem) (mem 65 20) lo left j)) := by
  have hn := hb.1
  have lt : ∀ z, 0 < CM mem z → z < mem 65 2 := fun z h => chT_in h
  obtain ⟨cnt, hcnt⟩ : ∃ cnt, mem 65 20 = cnt := ⟨_, rfl⟩
  rw [hcnt] at hc hr ⊢
  obtain ⟨p, hp⟩ : ∃ p, SM mem j = p := ⟨_, rfl⟩
  have gp := SM_ge mem j
  have lp := SM_le h1
  rw [hp] at gp lp
  have nb := numS_bnd (C := CM mem) (n := mem 65 2) (fun i h => lt i h) 2 p lp
  have nt := num2_top (CM mem) p
  have na := numS_adv (C := CM mem) (k := 1) (j := p)
  obtain ⟨n1, hn1⟩ : ∃ n1, numS (CM mem) 2 p = n1 := ⟨_, rfl⟩
  rw [hn1] at nb nt na
  obtain ⟨r, hrr⟩ : ∃ r, SM mem n1.2 = r := ⟨_, rfl⟩
  have gr := SM_ge mem n1.2
  have lr := SM_le (m := mem) (i := n1.2) nb.2.1
  rw [hrr] at gr lr
  obtain ⟨s, hs⟩ : ∃ s, SM mem (r + 1) = s := ⟨_, rfl⟩
  have gs := SM_ge mem (r + 1)
  have ls : CM mem r = 45 → s ≤ mem 65 2 := by
    intro z
    have := lt r (by omega)
    rw [← hs]
    exact SM_le (by omega)
  rw [hs] at gs
  have na2 := numS_adv (C := CM mem) (k := 1) (j := s)
  obtain ⟨n2, hn2⟩ : ∃ n2, numS (CM mem) 2 s = n2 := ⟨_, rfl⟩
  rw [hn2] at na2
  have nb2 : CM mem r = 45 → s ≤ n2.2 ∧ n2.2 ≤ mem 65 2 := by
    intro z
    have := numS_bnd (C := CM mem) (n := mem 65 2) (fun i h => lt i h) 2 s (ls z)
    rw [hn2] at this
    exact ⟨this.1, this.2.1⟩
  have nt2 := num2_top (CM mem) s
  rw [hn2] at nt2
  obtain ⟨R, hR⟩ : ∃ R, cutS (CM mem) (SM mem) cnt lo left j = R := ⟨_, rfl⟩
  have eS : R = if n1.1 = -1 then .inl n1.2 else if n1.1 ≤ lo ∨ cnt ≤ n1.1 then .inl (n1.2 - 1) else if ¬ CM mem r = 45 then .inl r else if n2.1 = -1 then .inl n2.2 else if n2.1 < n1.1 ∨ cnt ≤ n2.1 ∨ left - (n2.1 - n1.1 + 1) < 2 then .inl (n2.2 - 1) else .inr (n2.2, n1.1, n2.1) := by
    rw [← hR]
    unfold cutS
    rw [hp, hn1, hrr, hs, hn2]
  rw [hR]
  have k20 : ∀ z, cuM mem z 65 20 = cnt := fun z => by rw [cuM_65 _ _ (by decide), hcnt]
  have k21 : ∀ z, cuM mem z 65 21 = mem 65 21 := fun z => cuM_65 _ _ (by decide)
  have k4 : ∀ z, cuM mem z 65 4 = -1 := fun z => by rw [cuM_65 _ _ (by decide), hw]
  have w20 : ∀ z f, wM mem z f 65 20 = cnt := fun z f => by rw [wM_65 _ _ _ (by decide) (by decide), hcnt]
  have cl : mem 65 21 < 16777216 := by
    have := cutRel_lt hr
    have := p2_24 (i := lo + 1) (by omega)
    omega
  have bce : bcS (mem 65 21) = cnt - left := by rw [bcS_eq hr.1 cl, hr.2.2.1]
  have out : ∀ z f, R = .inl f → 0 ≤ f → (0 ≤ z ∧ z ≤ mem 65 2) → cutM mem K left R (wM mem z f) := by
    intro z f e f0 z0
    rw [e]
    exact ⟨wM_4 _ _ _, f0, mFr_w mem z f, by rw [w20, hcnt], by rw [wM_3]; exact z0⟩
  have b110 : ∀ z f x2 x3, R = .inl f → 0 ≤ f → (0 ≤ z ∧ z ≤ mem 65 2) → R32 x2 → R32 x3 → mmT bX12_cutText 3 0 0 (mQv (cutM mem K left R)) 110 [(2, 65), (9, 0), (0, x2), (0, x3), (9, 0)] [] mS (wM mem z f) := by
    intro z f x2 x3 e f0 z0 r2 r3
    exact bk_X12_cutText_110 (bk_X12_cutText_113 (fun _ g => by rw [wM_4] at g; omega) (fun _ => out z f e f0 z0) (fun _ _ => out z f e f0 z0) (s1 := r2) (s2 := r3))
  have b46 : ∀ z f x2, R = .inl f → 0 ≤ f → (0 ≤ z ∧ z ≤ mem 65 2) → R32 x2 → mmT bX12_cutText 3 0 0 (mQv (cutM mem K left R)) 46 [(2, 65), (9, 0), (0, x2), (9, 0), (9, 0)] [] mS (wM mem z f) := by
    intro z f x2 e f0 z0 r2
    have no : ∀ {q : Prop}, wM mem z f 65 4 = -1 → q := fun g => by rw [wM_4] at g; omega
    exact bk_X12_cutText_46 (d1 := 0) (P1 := fun _ _ => True) (fun g => no g) (fun g => no g) (fun g => no g) (fun g => no g) (fun _ => out z f e f0 z0) (s1 := fun g => no g) (s2 := fun g => no g) (s3 := fun g => no g) (s4 := fun g => no g) (s5 := fun g => no g) (s6 := fun g => no g) (s7 := fun g => no g)
  have b25 : ∀ z f x2, R = .inl f → 0 ≤ f → (0 ≤ z ∧ z ≤ mem 65 2) → R32 x2 → mmT bX12_cutText 3 0 0 (mQv (cutM mem K left R)) 25 [(2, 65), (9, 0), (0, x2), (9, 0), (9, 0)] [] mS (wM mem z f) := by
    intro z f x2 e f0 z0 r2
    have no : ∀ {q : Prop}, wM mem z f 65 4 = -1 → q := fun g => by rw [wM_4] at g; omega
    exact bk_X12_cutText_25 (fun _ => b46 z f x2 e f0 z0 r2) (fun g => no g) (fun g => no g) (s1 := fun g => no g) (s2 := fun g => no g)
  have g46 : ¬ n1.1 = -1 → lo < n1.1 → n1.1 < cnt → CM mem r = 45 → mmT bX12_cutText 3 0 0 (mQv (cutM mem K left R)) 46 [(2, 65), (9, 0), (0, n1.1), (9, 0), (9, 0)] [] mS (cuM mem r) := by
    intro y1 y2 y3 z
    rw [if_neg y1, if_neg (by omega), if_neg (fun y => y z)] at eS
    have nb2 := nb2 z
    have ltr := lt r (by omega)
    have dg := d_digits mem hb (j := r + 1) (by omega) (by omega) hw
    rw [hs, hn2] at dg
    refine bk_X12_cutText_46 (d1 := 2) (P1 := numM mem n2) (fun _ => by rw [cuM_at, cuM_mset]; exact dg) (fun _ v1 m1 w1 g => ?_) (fun _ v1 m1 w1 g g2 => ?_) (fun _ v1 m1 w1 g g2 => ?_) (fun g => absurd (k4 r) g) (s1 := fun _ => by rw [cuM_at]; exact ⟨by omega, by omega⟩) (s2 := fun _ v1 m1 w1 => ?_) (s3 := fun _ v1 m1 w1 => ⟨by omega, by omega⟩) (s4 := fun _ v1 m1 w1 => ?_) (s5 := fun _ v1 m1 w1 g => ?_) (s6 := fun _ v1 m1 w1 g => ?_) (s7 := fun _ v1 m1 w1 g g2 => ?_)
    · rcases w1 with ⟨q1, rfl, rfl⟩ | ⟨q1, q2, a, qa, rfl⟩
      · rw [k20] at g
        rw [if_neg q1, if_pos (by omega)] at eS
        have := na2 q1
        rw [lastM_cu _ hw]
        exact b110 _ _ _ _ eS (by omega) (by omega) ⟨by omega, by omega⟩ ⟨by omega, by omega⟩
      · rw [if_pos q1] at eS
        rw [lastM_w (by omega)]
        exact b110 _ _ _ _ eS (by omega) qa ⟨by omega, by omega⟩ ⟨by omega, by omega⟩
    · rcases w1 with ⟨q1, rfl, rfl⟩ | ⟨q1, q2, a, qa, rfl⟩
      · rw [k20] at g g2
        rw [k21, bce] at g2
        rw [if_neg q1, if_neg (by omega)] at eS
        refine bk_X12_cutText_110 ?_
        refine loop_up (n := n2.1 + 1) (fun i => ∀ m, n1.1 ≤ i → mFr mem m → m 65 3 = n2.2 → m 65 4 = -1 → m 65 20 = cnt → cutMid (m 65 21) n1.1 i left cnt K → (m 76 = mem 76 ∧ m 77 = mem 77 ∧ m 78 = mem 78) → mmT bX12_cutText 3 0 0 (mQv (cutM mem K left R)) 113 [(2, 65), (9, 0), (9, 0), (0, n2.1), (0, i)] [] mS m) (fun i i0 i1 ih m hi q1 q2 q3 q4 q5 q6 => ?_) n1.1 (by omega) (by omega) (cuM mem n2.2) (Int.le_refl _) (mFr_cu mem _) (cuM_at _ _) (k4 _) (k20 _) (by rw [k21]; exact cutMid_0 hr y2) ⟨cuM_ne _ _ (by decide), cuM_ne _ _ (by decide), cuM_ne _ _ (by decide)⟩
        refine bk_X12_cutText_113 (fun gg _ => ?_) (fun gg => ?_) (fun _ gg => absurd q3 gg) (s1 := ⟨by omega, by omega⟩) (s2 := ⟨by omega, by omega⟩)
        · refine ih (by omega) _ (by omega) (mFr_trans q1 (mFr_65 m (by omega))) ?_ ?_ ?_ ?_ ⟨?_, ?_, ?_⟩
          · rw [mset_at, if_neg (by decide), q2]
          · rw [mset_at, if_neg (by decide), q3]
          · rw [mset_at, if_neg (by decide), q4]
          · rw [mset_same]
            exact cutMid_step q5 (by omega) hi (by omega)
          · rw [mset_ne (by decide), q6.1]
          · rw [mset_ne (by decide), q6.2.1]
          · rw [mset_ne (by decide), q6.2.2]
        · have ei : i = n2.1 + 1 := by omega
          rw [ei] at q5
          rw [eS]
          refine ⟨q3, q1, by rw [q4, hcnt], q2, ?_, q6⟩
          rw [hcnt]
          exact cutMid_end q5 (by omega) (by omega)
      · rw [if_pos q1] at eS
        exact b110 _ _ _ _ eS (by omega) qa ⟨by omega, by omega⟩ ⟨by omega, by omega⟩
    · rcases w1 with ⟨q1, rfl, rfl⟩ | ⟨q1, q2, a, qa, rfl⟩
      · rw [k20] at g g2
        rw [k21, bce] at g2
        rw [if_neg q1, if_pos (by omega)] at eS
        have := na2 q1
        rw [lastM_cu _ hw]
        exact b110 _ _ _ _ eS (by omega) (by omega) ⟨by omega, by omega⟩ ⟨by omega, by omega⟩
      · rw [if_pos q1] at eS
        rw [lastM_w (by omega)]
        exact b110 _ _ _ _ eS (by omega) qa ⟨by omega, by omega⟩ ⟨by omega, by omega⟩
    · rcases w1 with ⟨q1, rfl, rfl⟩ | ⟨q1, q2, a, qa, rfl⟩ <;> exact ⟨by omega, by omega⟩
    · rcases w1 with ⟨q1, rfl, rfl⟩ | ⟨q1, q2, a, qa, rfl⟩
      · rw [k20]
        exact ⟨by omega, by omega⟩
      · rw [w20]
        exact ⟨by omega, by omega⟩
    · rcases w1 with ⟨q1, rfl, rfl⟩ | ⟨q1, q2, a, qa, rfl⟩
      · rw [cuM_at]
        exact ⟨by omega, by omega⟩
      · rw [wM_3]
        exact ⟨by omega, by omega⟩
    · have bn := popc_bnd (mem 65 21)
      have be := bcS_eq hr.1 cl
      rcases w1 with ⟨q1, rfl, rfl⟩ | ⟨q1, q2, a, qa, rfl⟩
      · rw [k20, k21]
        exact ⟨by omega, by omega⟩
      · rw [w20, wM_65 _ _ _ (by decide) (by decide)]
        exact ⟨by omega, by omega⟩
    · rcases w1 with ⟨q1, rfl, rfl⟩ | ⟨q1, q2, a, qa, rfl⟩
      · rw [cuM_at]
        exact ⟨by omega, by omega⟩
      · rw [wM_3]
        exact ⟨by omega, by omega⟩
  have g25 : ¬ n1.1 = -1 → lo < n1.1 → n1.1 < cnt → mmT bX12_cutText 3 0 0 (mQv (cutM mem K left R)) 25 [(2, 65), (9, 0), (0, n1.1), (9, 0), (9, 0)] [] mS (cuM mem n1.2) := by
    intro y1 y2 y3
    have hi := hereM_is mem (j := r) (c := 45) (by omega) (by decide)
    refine bk_X12_cutText_25 (fun g => absurd (k4 _) g) (fun _ g => ?_) (fun _ g => ?_) (s1 := fun _ => bytM_cu hb _) (s2 := fun _ => by rw [cuM_at]; omega)
    · rw [lookM_cu, hrr] at g ⊢
      exact g46 y1 y2 y3 (hi.mp g)
    · rw [lookM_cu, hrr] at g ⊢
      have z : ¬ CM mem r = 45 := fun y => g (hi.mpr y)
      rw [if_neg y1, if_neg (by omega), if_pos z] at eS
      rw [badM_cu mem _ hw]
      exact b46 _ _ _ eS (by omega) (by omega) ⟨by omega, by omega⟩
  have dg := d_digits mem hb h0 h1 hw
  rw [hp, hn1] at dg
  refine cn_X12_cutText (bk_X12_cutText_0 (d1 := 2) (P1 := numM mem n1) dg (fun v1 m1 w1 g => ?_) (fun v1 m1 w1 g => ?_) (s1 := fun v1 m1 w1 => ?_) (s2 := fun v1 m1 w1 => ⟨by omega, by omega⟩) (s3 := fun v1 m1 w1 => ?_) (s4 := fun v1 m1 w1 g => ?_))
  · rcases w1 with ⟨q1, rfl, rfl⟩ | ⟨q1, q2, a, qa, rfl⟩
    · rw [k20] at g
      exact g25 q1 (by omega) (by omega)
    · rw [if_pos q1] at eS
      exact b25 _ _ _ eS (by omega) qa ⟨by omega, by omega⟩
  · rcases w1 with ⟨q1, rfl, rfl⟩ | ⟨q1, q2, a, qa, rfl⟩
    · rw [k20] at g
      rw [if_neg q1, if_pos (by omega)] at eS
      have := na q1
      rw [lastM_cu _ hw]
      exact b25 _ _ _ eS (by omega) (by omega) ⟨by omega, by omega⟩
    · rw [if_pos q1] at eS
      rw [lastM_w (by omega)]
      exact b25 _ _ _ eS (by omega) qa ⟨by omega, by omega⟩
  · rcases w1 with ⟨q1, rfl, rfl⟩ | ⟨q1, q2, a, qa, rfl⟩ <;> exact ⟨by omega, by omega⟩
  · rcases w1 with ⟨q1, rfl, rfl⟩ | ⟨q1, q2, a, qa, rfl⟩
    · rw [k20]
      exact ⟨by omega, by omega⟩
    · rw [w20]
      exact ⟨by omega, by omega⟩
  · rcases w1 with ⟨q1, rfl, rfl⟩ | ⟨q1, q2, a, qa, rfl⟩
    · rw [cuM_at]
      exact ⟨by omega, by omega⟩
    · rw [wM_3]
      exact ⟨by omega, by omega⟩
