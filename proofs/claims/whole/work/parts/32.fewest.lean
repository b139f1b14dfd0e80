/-! the fewest marks -/
theorem popw_lt {w : Nat} : ∀ {j k : Nat}, j < 2 ^ k → popw w j ≤ k := by
  induction w with
  | zero => intro j k _; exact Nat.zero_le _
  | succ w ih =>
    intro j k h
    unfold popw
    cases k with
    | zero =>
      have e : j = 0 := by
        have : (2 : Nat) ^ 0 = 1 := rfl
        omega
      have := ih (j := j / 2) (k := 0) (by rw [e]; decide)
      omega
    | succ k =>
      rw [Nat.pow_succ] at h
      have := ih (j := j / 2) (k := k) (by omega)
      omega
theorem spr_pos {w c j : Nat} (h : j < 2 ^ popw w c) (h0 : spr w c j = 0) : j = 0 := by
  induction w generalizing c j with
  | zero =>
    have : popw 0 c = 0 := rfl
    rw [this] at h
    have : (2 : Nat) ^ 0 = 1 := rfl
    omega
  | succ w ih =>
    have hp : 2 ^ popw (w + 1) c = 2 ^ (c % 2) * 2 ^ popw w (c / 2) := Nat.pow_add _ _ _
    rw [hp] at h
    unfold spr at h0
    by_cases q : c % 2 = 1
    · rw [if_pos q] at h0
      rw [q, show (2 : Nat) ^ 1 = 2 from rfl] at h
      have := ih (c := c / 2) (j := j / 2) (by omega) (by omega)
      omega
    · rw [if_neg q] at h0
      rw [show c % 2 = 0 by omega, show (2 : Nat) ^ 0 = 1 from rfl, Nat.one_mul] at h
      exact ih h (by omega)
/-- the best choice among the first K -/
def fewK (c : Int) (ok : Int → Prop) (K : Nat) (r : Int) : Prop := (r = -1 ∧ ∀ j, j < K → ¬ ok (spr 24 c.toNat j : Int)) ∨ ∃ j, j < K ∧ r = (spr 24 c.toNat j : Int) ∧ ok (spr 24 c.toNat j : Int) ∧ ∀ i, i < K → ok (spr 24 c.toNat i : Int) → popw 24 j < popw 24 i ∨ (popw 24 j = popw 24 i ∧ j ≤ i)
theorem fewK_unique {c : Int} {ok : Int → Prop} {K : Nat} {r r' : Int} (h : fewK c ok K r) (h' : fewK c ok K r') : r = r' := by
  rcases h with ⟨h1, h2⟩ | ⟨j, h1, h2, h3, h4⟩
  · rcases h' with ⟨g1, g2⟩ | ⟨i, g1, g2, g3, g4⟩
    · omega
    · exact absurd g3 (h2 i g1)
  · rcases h' with ⟨g1, g2⟩ | ⟨i, g1, g2, g3, g4⟩
    · exact absurd h3 (g2 j h1)
    · have a := h4 i g1 g3
      have b := g4 j h1 h3
      have : i = j := by omega
      rw [h2, g2, this]
theorem fewK_congr {c : Int} {ok ok' : Int → Prop} {K : Nat} {r : Int} (h : fewK c ok K r) (e : ∀ s, ok s ↔ ok' s) : fewK c ok' K r := by
  rcases h with ⟨h1, h2⟩ | ⟨j, h1, h2, h3, h4⟩
  · exact Or.inl ⟨h1, fun j hj z => h2 j hj ((e _).mpr z)⟩
  · exact Or.inr ⟨j, h1, h2, (e _).mp h3, fun i hi z => h4 i hi ((e _).mpr z)⟩
theorem fewK_no {c : Int} {ok : Int → Prop} {K : Nat} {r : Int} (h : fewK c ok K r) (hk : ¬ ok (spr 24 c.toNat K : Int)) : fewK c ok (K + 1) r := by
  rcases h with ⟨h1, h2⟩ | ⟨j, h1, h2, h3, h4⟩
  · refine Or.inl ⟨h1, fun j hj => ?_⟩
    rcases Nat.lt_or_ge j K with q | q
    · exact h2 j q
    · rw [show j = K by omega]
      exact hk
  · refine Or.inr ⟨j, by omega, h2, h3, fun i hi hok => ?_⟩
    rcases Nat.lt_or_ge i K with q | q
    · exact h4 i q hok
    · rw [show i = K by omega] at hok
      exact absurd hok hk
theorem fewK_same {c : Int} {ok : Int → Prop} {K j : Nat} (hj : j < K) (hok : ok (spr 24 c.toNat j : Int)) (hb : ∀ i, i < K → ok (spr 24 c.toNat i : Int) → popw 24 j < popw 24 i ∨ (popw 24 j = popw 24 i ∧ j ≤ i)) (hp : popw 24 j ≤ popw 24 K) : fewK c ok (K + 1) (spr 24 c.toNat j : Int) := by
  refine Or.inr ⟨j, by omega, rfl, hok, fun i hi h => ?_⟩
  rcases Nat.lt_or_ge i K with q | q
  · exact hb i q h
  · rw [show i = K by omega]
    omega
theorem fewK_new {c : Int} {ok : Int → Prop} {K : Nat} (hok : ok (spr 24 c.toNat K : Int)) (h : (∀ j, j < K → ¬ ok (spr 24 c.toNat j : Int)) ∨ ∃ j, j < K ∧ (∀ i, i < K → ok (spr 24 c.toNat i : Int) → popw 24 j < popw 24 i ∨ (popw 24 j = popw 24 i ∧ j ≤ i)) ∧ popw 24 K < popw 24 j) : fewK c ok (K + 1) (spr 24 c.toNat K : Int) := by
  refine Or.inr ⟨K, by omega, rfl, hok, fun i hi hi2 => ?_⟩
  rcases Nat.lt_or_ge i K with q | q
  · rcases h with h | ⟨j, j0, j1, j2⟩
    · exact absurd hi2 (h i q)
    · have := j1 i q hi2
      omega
  · have : i = K := by omega
    rw [this]
    exact Or.inr ⟨rfl, Nat.le_refl _⟩
theorem cn_X7_spread {d : Nat} {P : Int → mmM → Prop} {mem : mmM} {x0 x1 : Int} (h : mmT bX7_spread d 0 0 (mQ 0 P) 0 [(0, x0), (0, x1), (9, 0), (9, 0), (9, 0)] [] mS mem) : con 0 bX7_spread d [(0, x0), (0, x1)] mem P := mmC_of [(0, x0), (0, x1), (9, 0), (9, 0), (9, 0)] ok_X7_spread.2.2.2.2 rfl (Nat.le_of_ble_eq_true rfl) h
theorem bk_X7_spread_0 {d : Nat} {P : Int → mmM → Prop} {mem : mmM} {x0 x1 : Int}
  (k1 : mmT bX7_spread d 0 0 (mQ 0 P) 7 [(9, 0), (0, x1), (0, 0), (0, x0), (0, 0)] [] mS mem)
  : mmT bX7_spread d 0 0 (mQ 0 P) 0 [(0, x0), (0, x1), (9, 0), (9, 0), (9, 0)] [] mS mem := by
  refine st_iconst dX7_spread_0 ?_
  refine st_istore_n (i := 2) rfl (by decide) (lc' := [(0, x0), (0, x1), (0, 0), (9, 0), (9, 0)]) rfl dX7_spread_1 ?_
  refine st_iload_n (i := 0) rfl rfl dX7_spread_2 ?_
  refine st_istore_n (i := 3) rfl (by decide) (lc' := [(0, x0), (0, x1), (0, 0), (0, x0), (9, 0)]) rfl dX7_spread_3 ?_
  refine st_iconst dX7_spread_4 ?_
  refine st_istore (by decide) (lc' := [(0, x0), (0, x1), (0, 0), (0, x0), (0, 0)]) rfl dX7_spread_5 ?_
  exact st_locals [(9, 0), (0, x1), (0, 0), (0, x0), (0, 0)] ⟨Or.inl rfl, Or.inr rfl, Or.inr rfl, Or.inr rfl, Or.inr rfl, trivial⟩ k1
theorem bk_X7_spread_7 {d : Nat} {P : Int → mmM → Prop} {mem : mmM} {x1 x2 x3 x4 : Int}
  (k1 : x4 < 24 → (and32 (shr32 x1 x4) 1) = 0 → mmT bX7_spread d 0 0 (mQ 0 P) 7 [(9, 0), (0, x1), (0, x2), (0, x3), (0, (x4 + 1))] [] mS mem)
  (k2 : x4 < 24 → ¬ (and32 (shr32 x1 x4) 1) = 0 → mmT bX7_spread d 0 0 (mQ 0 P) 7 [(9, 0), (0, x1), (0, (or32 x2 (shl32 (and32 x3 1) x4))), (0, (shr32 x3 1)), (0, (x4 + 1))] [] mS mem)
  (q1 : 24 ≤ x4 → P x2 mem)
  (s1 : R32 x4 := by intros; first | omega | assumption | solve_by_elim)
  : mmT bX7_spread d 0 0 (mQ 0 P) 7 [(9, 0), (0, x1), (0, x2), (0, x3), (0, x4)] [] mS mem := by
  refine st_iload rfl dX7_spread_7 ?_
  refine st_bipush rfl dX7_spread_9 ?_
  refine sr_icmp_ge 42 s1 ⟨by decide, by decide⟩ (by decide) dX7_spread_11 (fun h1 => ?_) (fun h1 => ?_)
  · have h1 : 24 ≤ x4 := by omega
    refine st_iload_n (i := 2) rfl rfl dX7_spread_42 ?_
    exact st_ireturn rfl dX7_spread_43 (mQ.ret (q1 h1))
  · have h1 : x4 < 24 := by omega
    refine st_iload_n (i := 1) rfl rfl dX7_spread_14 ?_
    refine st_iload rfl dX7_spread_15 ?_
    refine st_ishr dX7_spread_17 ?_
    refine st_iconst dX7_spread_18 ?_
    refine st_iand dX7_spread_19 ?_
    refine sr_if_eq 36 (and32_rng (shr32 x1 x4) 1) (by decide) dX7_spread_20 (fun h2 => ?_) (fun h2 => ?_)
    · have h2 : (and32 (shr32 x1 x4) 1) = 0 := by omega
      refine st_iinc (y := (x4 + 1)) (by decide) (i := 4) rfl rfl (lc' := [(9, 0), (0, x1), (0, x2), (0, x3), (0, (x4 + 1))]) rfl dX7_spread_36 ?_
      refine st_goto 7 (by decide) dX7_spread_39 ?_
      exact st_locals [(9, 0), (0, x1), (0, x2), (0, x3), (0, (x4 + 1))] ⟨Or.inl rfl, Or.inr rfl, Or.inr rfl, Or.inr rfl, Or.inr rfl, trivial⟩ (k1 h1 h2)
    · have h2 : ¬ (and32 (shr32 x1 x4) 1) = 0 := by omega
      refine st_iload_n (i := 2) rfl rfl dX7_spread_23 ?_
      refine st_iload_n (i := 3) rfl rfl dX7_spread_24 ?_
      refine st_iconst dX7_spread_25 ?_
      refine st_iand dX7_spread_26 ?_
      refine st_iload rfl dX7_spread_27 ?_
      refine st_ishl dX7_spread_29 ?_
      refine st_ior dX7_spread_30 ?_
      refine st_istore_n (i := 2) rfl (by decide) (lc' := [(9, 0), (0, x1), (0, (or32 x2 (shl32 (and32 x3 1) x4))), (0, x3), (0, x4)]) rfl dX7_spread_31 ?_
      refine st_iload_n (i := 3) rfl rfl dX7_spread_32 ?_
      refine st_iconst dX7_spread_33 ?_
      refine st_ishr dX7_spread_34 ?_
      refine st_istore_n (i := 3) rfl (by decide) (lc' := [(9, 0), (0, x1), (0, (or32 x2 (shl32 (and32 x3 1) x4))), (0, (shr32 x3 1)), (0, x4)]) rfl dX7_spread_35 ?_
      refine st_iinc (y := (x4 + 1)) (by decide) (i := 4) rfl rfl (lc' := [(9, 0), (0, x1), (0, (or32 x2 (shl32 (and32 x3 1) x4))), (0, (shr32 x3 1)), (0, (x4 + 1))]) rfl dX7_spread_36 ?_
      refine st_goto 7 (by decide) dX7_spread_39 ?_
      exact st_locals [(9, 0), (0, x1), (0, (or32 x2 (shl32 (and32 x3 1) x4))), (0, (shr32 x3 1)), (0, (x4 + 1))] ⟨Or.inl rfl, Or.inr rfl, Or.inr rfl, Or.inr rfl, Or.inr rfl, trivial⟩ (k2 h1 h2)
theorem cn_X7_fewestMarks_a {d : Nat} {P : Int → mmM → Prop} {mem : mmM} {x1 x2 x3 x4 : Int} (h : mmT bX7_fewestMarks d 0 0 (mQ 0 P) 0 [(2, 58), (0, x1), (0, x2), (0, x3), (0, x4), (9, 0), (9, 0), (9, 0), (9, 0)] [] mS mem) : con 0 bX7_fewestMarks d [(2, 58), (0, x1), (0, x2), (0, x3), (0, x4)] mem P := mmC_of [(2, 58), (0, x1), (0, x2), (0, x3), (0, x4), (9, 0), (9, 0), (9, 0), (9, 0)] ok_X7_fewestMarks.2.2.2.2 rfl (Nat.le_of_ble_eq_true rfl) h
theorem bk_X7_fewestMarks_a_0 {d : Nat} {P : Int → mmM → Prop} {mem : mmM} {x1 x2 x3 x4 : Int}
  (k1 : mmT bX7_fewestMarks d 0 0 (mQ 0 P) 15 [(2, 58), (0, x1), (0, x2), (0, x3), (0, x4), (0, (min (bcS x4) 10)), (0, 0), (9, 0), (9, 0)] [] mS mem)
  (hd1 : 1 ≤ d := by omega)
  (hd2 : 2 ≤ d := by omega)
  : mmT bX7_fewestMarks d 0 0 (mQ 0 P) 0 [(2, 58), (0, x1), (0, x2), (0, x3), (0, x4), (9, 0), (9, 0), (9, 0), (9, 0)] [] mS mem := by
  refine st_iload rfl dX7_fewestMarks_0 ?_
  refine st_callS (kc2 := 0) (ks2 := 0) (av := [(0, x4)]) mr_X7_59 ok_J6_bitCount_0f7a4 (c_bitCount mem x4 ) rfl rfl hd2 (Nat.le_refl 0) (Nat.le_refl 0) (Nat.le_of_ble_eq_true rfl) dX7_fewestMarks_2 (mQ.elim fun v1 m1 hp => ?_)
  obtain ⟨hpv, hpm⟩ := hp
  subst hpv
  have hpm := hpm.symm
  subst hpm
  refine st_bipush rfl dX7_fewestMarks_5 ?_
  refine sr_mmin (bcS_rng x4) ⟨by decide, by decide⟩ mr_X7_65 ms_mini mi_Math mc_mini hd1 (Nat.le_of_ble_eq_true rfl) dX7_fewestMarks_7 ?_
  refine st_istore (by decide) (lc' := [(2, 58), (0, x1), (0, x2), (0, x3), (0, x4), (0, (min (bcS x4) 10)), (9, 0), (9, 0), (9, 0)]) rfl dX7_fewestMarks_10 ?_
  refine st_iconst dX7_fewestMarks_12 ?_
  refine st_istore (by decide) (lc' := [(2, 58), (0, x1), (0, x2), (0, x3), (0, x4), (0, (min (bcS x4) 10)), (0, 0), (9, 0), (9, 0)]) rfl dX7_fewestMarks_13 ?_
  exact st_locals [(2, 58), (0, x1), (0, x2), (0, x3), (0, x4), (0, (min (bcS x4) 10)), (0, 0), (9, 0), (9, 0)] ⟨Or.inr rfl, Or.inr rfl, Or.inr rfl, Or.inr rfl, Or.inr rfl, Or.inr rfl, Or.inr rfl, Or.inl rfl, Or.inl rfl, trivial⟩ k1
theorem bk_X7_fewestMarks_a_15 {d : Nat} {P : Int → mmM → Prop} {mem : mmM} {x1 x2 x3 x4 x5 x6 : Int}
  (k1 : x6 ≤ x5 → mmT bX7_fewestMarks d 0 0 (mQ 0 P) 25 [(2, 58), (0, x1), (0, x2), (0, x3), (0, x4), (0, x5), (0, x6), (0, 0), (9, 0)] [] mS mem)
  (q1 : x5 < x6 → P (-1) mem)
  (s1 : R32 x6 := by intros; first | omega | assumption | solve_by_elim)
  (s2 : R32 x5 := by intros; first | omega | assumption | solve_by_elim)
  : mmT bX7_fewestMarks d 0 0 (mQ 0 P) 15 [(2, 58), (0, x1), (0, x2), (0, x3), (0, x4), (0, x5), (0, x6), (9, 0), (9, 0)] [] mS mem := by
  refine st_iload rfl dX7_fewestMarks_15 ?_
  refine st_iload rfl dX7_fewestMarks_17 ?_
  refine sr_icmp_gt 81 s1 s2 (by decide) dX7_fewestMarks_19 (fun h1 => ?_) (fun h1 => ?_)
  · have h1 : x5 < x6 := by omega
    refine st_iconst dX7_fewestMarks_81 ?_
    exact st_ireturn rfl dX7_fewestMarks_82 (mQ.ret (q1 h1))
  · have h1 : x6 ≤ x5 := by omega
    refine st_iconst dX7_fewestMarks_22 ?_
    refine st_istore (by decide) (lc' := [(2, 58), (0, x1), (0, x2), (0, x3), (0, x4), (0, x5), (0, x6), (0, 0), (9, 0)]) rfl dX7_fewestMarks_23 ?_
    exact st_locals [(2, 58), (0, x1), (0, x2), (0, x3), (0, x4), (0, x5), (0, x6), (0, 0), (9, 0)] ⟨Or.inr rfl, Or.inr rfl, Or.inr rfl, Or.inr rfl, Or.inr rfl, Or.inr rfl, Or.inr rfl, Or.inr rfl, Or.inl rfl, trivial⟩ (k1 h1)
theorem bk_X7_fewestMarks_a_25 {d : Nat} {d1 : Nat} {P1 : Int → mmM → Prop} {d2 : Nat} {P2 : Int → mmM → Prop} {P : Int → mmM → Prop} {mem : mmM} {x1 x2 x3 x4 x5 x6 x7 : Int}
  (c1 : x7 < (shl32 1 x5) → (bcS x7) = x6 → con 0 bX7_spread d1 [(0, x7), (0, x4)] mem P1)
  (c2 : x7 < (shl32 1 x5) → (bcS x7) = x6 → ∀ (v2 : Int), ∀ (m2 : mmM), P1 v2 m2 → con 0 bX7_reaches d2 [(2, 58), (0, x1), (0, x2), (0, (or32 x3 v2))] m2 P2)
  (k1 : (shl32 1 x5) ≤ x7 → mmT bX7_fewestMarks d 0 0 (mQ 0 P) 15 [(2, 58), (0, x1), (0, x2), (0, x3), (0, x4), (0, x5), (0, (x6 + 1)), (9, 0), (9, 0)] [] mS mem)
  (k2 : x7 < (shl32 1 x5) → ¬ (bcS x7) = x6 → mmT bX7_fewestMarks d 0 0 (mQ 0 P) 25 [(2, 58), (0, x1), (0, x2), (0, x3), (0, x4), (0, x5), (0, x6), (0, (x7 + 1)), (9, 0)] [] mS mem)
  (k3 : x7 < (shl32 1 x5) → (bcS x7) = x6 → ∀ (v2 : Int), ∀ (m2 : mmM), P1 v2 m2 → ∀ (v3 : Int), ∀ (m3 : mmM), P2 v3 m3 → v3 = 0 → mmT bX7_fewestMarks d 0 0 (mQ 0 P) 25 [(2, 58), (0, x1), (0, x2), (0, x3), (0, x4), (0, x5), (0, x6), (0, (x7 + 1)), (9, 0)] [] mS m3)
  (q1 : x7 < (shl32 1 x5) → (bcS x7) = x6 → ∀ (v2 : Int), ∀ (m2 : mmM), P1 v2 m2 → ∀ (v3 : Int), ∀ (m3 : mmM), P2 v3 m3 → ¬ v3 = 0 → P v2 m3)
  (hd_d1 : d1 + 1 ≤ d := by omega)
  (hd_d2 : d2 + 1 ≤ d := by omega)
  (hd2 : 2 ≤ d := by omega)
  (s1 : R32 x7 := by intros; first | omega | assumption | solve_by_elim)
  (s2 : x7 < (shl32 1 x5) → R32 x6 := by intros; first | omega | assumption | solve_by_elim)
  (s3 : x7 < (shl32 1 x5) → (bcS x7) = x6 → ∀ (v2 : Int), ∀ (m2 : mmM), P1 v2 m2 → ∀ (v3 : Int), ∀ (m3 : mmM), P2 v3 m3 → R32 v3 := by intros; first | omega | assumption | solve_by_elim)
  : mmT bX7_fewestMarks d 0 0 (mQ 0 P) 25 [(2, 58), (0, x1), (0, x2), (0, x3), (0, x4), (0, x5), (0, x6), (0, x7), (9, 0)] [] mS mem := by
  refine st_iload rfl dX7_fewestMarks_25 ?_
  refine st_iconst dX7_fewestMarks_27 ?_
  refine st_iload rfl dX7_fewestMarks_28 ?_
  refine st_ishl dX7_fewestMarks_30 ?_
  refine sr_icmp_ge 75 s1 (shl32_rng 1 x5) (by decide) dX7_fewestMarks_31 (fun h1 => ?_) (fun h1 => ?_)
  · have h1 : (shl32 1 x5) ≤ x7 := by omega
    refine st_iinc (y := (x6 + 1)) (by decide) (i := 6) rfl rfl (lc' := [(2, 58), (0, x1), (0, x2), (0, x3), (0, x4), (0, x5), (0, (x6 + 1)), (0, x7), (9, 0)]) rfl dX7_fewestMarks_75 ?_
    refine st_goto 15 (by decide) dX7_fewestMarks_78 ?_
    exact st_locals [(2, 58), (0, x1), (0, x2), (0, x3), (0, x4), (0, x5), (0, (x6 + 1)), (9, 0), (9, 0)] ⟨Or.inr rfl, Or.inr rfl, Or.inr rfl, Or.inr rfl, Or.inr rfl, Or.inr rfl, Or.inr rfl, Or.inl rfl, Or.inl rfl, trivial⟩ (k1 h1)
  · have h1 : x7 < (shl32 1 x5) := by omega
    refine st_iload rfl dX7_fewestMarks_34 ?_
    refine st_callS (kc2 := 0) (ks2 := 0) (av := [(0, x7)]) mr_X7_59 ok_J6_bitCount_0f7a4 (c_bitCount mem x7 ) rfl rfl hd2 (Nat.le_refl 0) (Nat.le_refl 0) (Nat.le_of_ble_eq_true rfl) dX7_fewestMarks_36 (mQ.elim fun v1 m1 hp => ?_)
    obtain ⟨hpv, hpm⟩ := hp
    subst hpv
    have hpm := hpm.symm
    subst hpm
    refine st_iload rfl dX7_fewestMarks_39 ?_
    refine sr_icmp_ne 69 (bcS_rng x7) (s2 h1) (by decide) dX7_fewestMarks_41 (fun h2 => ?_) (fun h2 => ?_)
    · have h2 : ¬ (bcS x7) = x6 := by omega
      refine st_iinc (y := (x7 + 1)) (by decide) (i := 7) rfl rfl (lc' := [(2, 58), (0, x1), (0, x2), (0, x3), (0, x4), (0, x5), (0, x6), (0, (x7 + 1)), (9, 0)]) rfl dX7_fewestMarks_69 ?_
      refine st_goto 25 (by decide) dX7_fewestMarks_72 ?_
      exact st_locals [(2, 58), (0, x1), (0, x2), (0, x3), (0, x4), (0, x5), (0, x6), (0, (x7 + 1)), (9, 0)] ⟨Or.inr rfl, Or.inr rfl, Or.inr rfl, Or.inr rfl, Or.inr rfl, Or.inr rfl, Or.inr rfl, Or.inr rfl, Or.inl rfl, trivial⟩ (k2 h1 h2)
    · have h2 : (bcS x7) = x6 := by omega
      refine st_iload rfl dX7_fewestMarks_44 ?_
      refine st_iload rfl dX7_fewestMarks_46 ?_
      refine st_callS (kc2 := 0) (ks2 := 0) (av := [(0, x7), (0, x4)]) mr_X7_71 ok_X7_spread (c1 h1 h2) rfl rfl hd_d1 (Nat.le_refl 0) (Nat.le_refl 0) (Nat.le_of_ble_eq_true rfl) dX7_fewestMarks_48 (mQ.elim fun v2 m2 p1 => ?_)
      refine st_istore (by decide) (lc' := [(2, 58), (0, x1), (0, x2), (0, x3), (0, x4), (0, x5), (0, x6), (0, x7), (0, v2)]) rfl dX7_fewestMarks_51 ?_
      refine st_aload_n (i := 0) rfl (t := 0) rfl (by decide) dX7_fewestMarks_53 ?_
      refine st_iload_n (i := 1) rfl rfl dX7_fewestMarks_54 ?_
      refine st_iload_n (i := 2) rfl rfl dX7_fewestMarks_55 ?_
      refine st_iload_n (i := 3) rfl rfl dX7_fewestMarks_56 ?_
      refine st_iload rfl dX7_fewestMarks_57 ?_
      refine st_ior dX7_fewestMarks_59 ?_
      refine st_callV (kc2 := 0) (ks2 := 0) (av := [(0, x1), (0, x2), (0, (or32 x3 v2))]) 58 7 mr_X7_74 ok_X7_reaches (c2 h1 h2 v2 m2 p1) rfl sh_58 ⟨_, rfl, rfl, by decide⟩ rfl rfl hd_d2 (Nat.le_refl 0) (Nat.le_refl 0) (Nat.le_of_ble_eq_true rfl) dX7_fewestMarks_60 (mQ.elim fun v3 m3 p2 => ?_)
      refine sr_if_eq 69 (s3 h1 h2 v2 m2 p1 v3 m3 p2) (by decide) dX7_fewestMarks_63 (fun h3 => ?_) (fun h3 => ?_)
      · have h3 : v3 = 0 := by omega
        refine st_iinc (y := (x7 + 1)) (by decide) (i := 7) rfl rfl (lc' := [(2, 58), (0, x1), (0, x2), (0, x3), (0, x4), (0, x5), (0, x6), (0, (x7 + 1)), (0, v2)]) rfl dX7_fewestMarks_69 ?_
        refine st_goto 25 (by decide) dX7_fewestMarks_72 ?_
        exact st_locals [(2, 58), (0, x1), (0, x2), (0, x3), (0, x4), (0, x5), (0, x6), (0, (x7 + 1)), (9, 0)] ⟨Or.inr rfl, Or.inr rfl, Or.inr rfl, Or.inr rfl, Or.inr rfl, Or.inr rfl, Or.inr rfl, Or.inr rfl, Or.inl rfl, trivial⟩ (k3 h1 h2 v2 m2 p1 v3 m3 p2 h3)
      · have h3 : ¬ v3 = 0 := by omega
        refine st_iload rfl dX7_fewestMarks_66 ?_
        exact st_ireturn rfl dX7_fewestMarks_68 (mQ.ret (q1 h1 h2 v2 m2 p1 v3 m3 p2 h3))
theorem cn_X11_fewest {d : Nat} {P : Int → mmM → Prop} {mem : mmM} {x1 x2 x3 : Int} (h : mmT bX11_fewest d 0 0 (mQ 0 P) 0 [(2, 0), (0, x1), (0, x2), (0, x3), (9, 0)] [] mS mem) : con 0 bX11_fewest d [(2, 0), (0, x1), (0, x2), (0, x3)] mem P := mmC_of [(2, 0), (0, x1), (0, x2), (0, x3), (9, 0)] ok_X11_fewest.2.2.2.2 rfl (Nat.le_of_ble_eq_true rfl) h
theorem bk_X11_fewest_0 {d : Nat} {d1 : Nat} {P1 : Int → mmM → Prop} {P : Int → mmM → Prop} {mem : mmM} {x1 x2 x3 : Int}
  (c1 : ¬ (mem 23 1) = 0 → (1 ≤ x2 ∧ x2 ≤ 200) → 0 ≤ x1 → x1 ≤ 1000000000 → 0 ≤ x3 → x3 ≤ 1 → con 0 bX7_fewestMarks d1 [(2, 58), (0, x1), (0, x2), (0, (and32 (mem 47 0) (xor32 (mem 47 1) (-1)))), (0, (mem 47 1))] mem P1)
  (q1 : (mem 23 1) = 0 → P (-1) mem)
  (q2 : ¬ (mem 23 1) = 0 → ¬ (1 ≤ x2 ∧ x2 ≤ 200) → P (-1) mem)
  (q3 : ¬ (mem 23 1) = 0 → (1 ≤ x2 ∧ x2 ≤ 200) → x1 < 0 → P (-1) mem)
  (q4 : ¬ (mem 23 1) = 0 → (1 ≤ x2 ∧ x2 ≤ 200) → 0 ≤ x1 → 1000000000 < x1 → P (-1) mem)
  (q5 : ¬ (mem 23 1) = 0 → (1 ≤ x2 ∧ x2 ≤ 200) → 0 ≤ x1 → x1 ≤ 1000000000 → x3 < 0 → P (-1) mem)
  (q6 : ¬ (mem 23 1) = 0 → (1 ≤ x2 ∧ x2 ≤ 200) → 0 ≤ x1 → x1 ≤ 1000000000 → 0 ≤ x3 → x3 ≤ 1 → ∀ (v2 : Int), ∀ (m2 : mmM), P1 v2 m2 → v2 = (-1) → P v2 m2)
  (q7 : ¬ (mem 23 1) = 0 → (1 ≤ x2 ∧ x2 ≤ 200) → 0 ≤ x1 → x1 ≤ 1000000000 → 0 ≤ x3 → x3 ≤ 1 → ∀ (v2 : Int), ∀ (m2 : mmM), P1 v2 m2 → ¬ v2 = (-1) → ¬ x3 = 1 → P (bcS v2) m2)
  (q8 : ¬ (mem 23 1) = 0 → (1 ≤ x2 ∧ x2 ≤ 200) → 0 ≤ x1 → x1 ≤ 1000000000 → 0 ≤ x3 → x3 ≤ 1 → ∀ (v2 : Int), ∀ (m2 : mmM), P1 v2 m2 → ¬ v2 = (-1) → x3 = 1 → P v2 m2)
  (q9 : ¬ (mem 23 1) = 0 → (1 ≤ x2 ∧ x2 ≤ 200) → 0 ≤ x1 → x1 ≤ 1000000000 → 0 ≤ x3 → 1 < x3 → P (-1) mem)
  (hd_d1 : d1 + 1 ≤ d := by omega)
  (hd2 : 2 ≤ d := by omega)
  (s1 : ¬ (mem 23 1) = 0 → R32 x2 := by intros; first | omega | assumption | solve_by_elim)
  (s2 : ¬ (mem 23 1) = 0 → (1 ≤ x2 ∧ x2 ≤ 200) → R32 x1 := by intros; first | omega | assumption | solve_by_elim)
  (s3 : ¬ (mem 23 1) = 0 → (1 ≤ x2 ∧ x2 ≤ 200) → 0 ≤ x1 → x1 ≤ 1000000000 → R32 x3 := by intros; first | omega | assumption | solve_by_elim)
  (s4 : ¬ (mem 23 1) = 0 → (1 ≤ x2 ∧ x2 ≤ 200) → 0 ≤ x1 → x1 ≤ 1000000000 → 0 ≤ x3 → x3 ≤ 1 → ∀ (v2 : Int), ∀ (m2 : mmM), P1 v2 m2 → R32 v2 := by intros; first | omega | assumption | solve_by_elim)
  : mmT bX11_fewest d 0 0 (mQ 0 P) 0 [(2, 0), (0, x1), (0, x2), (0, x3), (9, 0)] [] mS mem := by
  refine st_aload_n (i := 0) rfl (t := 0) rfl (by decide) dX11_fewest_0 ?_
  refine so_getA 0 4 fr_X11_42_10 rfl sh_0 fx_0_4 dX11_fewest_1 ?_
  refine so_getI (v := (mem 23 1)) 23 1 fr_X11_135_8 rfl sh_23 rfl dX11_fewest_4 (fun r1 => ?_)
  refine sr_if_eq 37 r1 (by decide) dX11_fewest_7 (fun h1 => ?_) (fun h1 => ?_)
  · have h1 : (mem 23 1) = 0 := by omega
    refine st_iconst dX11_fewest_37 ?_
    exact st_ireturn rfl dX11_fewest_38 (mQ.ret (q1 h1))
  · have h1 : ¬ (mem 23 1) = 0 := by omega
    refine st_iload_n (i := 2) rfl rfl dX11_fewest_10 ?_
    refine st_callS (kc2 := 0) (ks2 := 0) (av := [(0, x2)]) mr_X11_260 ok_X11_isMostSaid (c_X11_isMostSaid mem x2 ((s1 h1))) rfl rfl hd2 (Nat.le_refl 0) (Nat.le_refl 0) (Nat.le_of_ble_eq_true rfl) dX11_fewest_11 (mQ.elim fun v1 m1 hp => ?_)
    obtain ⟨hpv, hpm⟩ := hp
    subst hpv
    have hpm := hpm.symm
    subst hpm
    refine so_ifeqB 37 (by decide) dX11_fewest_14 (fun h2 => ?_) (fun h2 => ?_)
    · have h2 : ¬ (1 ≤ x2 ∧ x2 ≤ 200) := h2
      refine st_iconst dX11_fewest_37 ?_
      exact st_ireturn rfl dX11_fewest_38 (mQ.ret (q2 h1 h2))
    · have h2 : (1 ≤ x2 ∧ x2 ≤ 200) := h2
      refine st_iload_n (i := 1) rfl rfl dX11_fewest_17 ?_
      refine sr_if_lt 37 (s2 h1 h2) (by decide) dX11_fewest_18 (fun h3 => ?_) (fun h3 => ?_)
      · have h3 : x1 < 0 := by omega
        refine st_iconst dX11_fewest_37 ?_
        exact st_ireturn rfl dX11_fewest_38 (mQ.ret (q3 h1 h2 h3))
      · have h3 : 0 ≤ x1 := by omega
        refine st_iload_n (i := 1) rfl rfl dX11_fewest_21 ?_
        refine st_ldcw cw_X11_277 dX11_fewest_22 ?_
        refine sr_icmp_gt 37 (s2 h1 h2) ⟨by decide, by decide⟩ (by decide) dX11_fewest_25 (fun h4 => ?_) (fun h4 => ?_)
        · have h4 : 1000000000 < x1 := by omega
          refine st_iconst dX11_fewest_37 ?_
          exact st_ireturn rfl dX11_fewest_38 (mQ.ret (q4 h1 h2 h3 h4))
        · have h4 : x1 ≤ 1000000000 := by omega
          refine st_iload_n (i := 3) rfl rfl dX11_fewest_28 ?_
          refine sr_if_lt 37 (s3 h1 h2 h3 h4) (by decide) dX11_fewest_29 (fun h5 => ?_) (fun h5 => ?_)
          · have h5 : x3 < 0 := by omega
            refine st_iconst dX11_fewest_37 ?_
            exact st_ireturn rfl dX11_fewest_38 (mQ.ret (q5 h1 h2 h3 h4 h5))
          · have h5 : 0 ≤ x3 := by omega
            refine st_iload_n (i := 3) rfl rfl dX11_fewest_32 ?_
            refine st_iconst dX11_fewest_33 ?_
            refine sr_icmp_le 39 (s3 h1 h2 h3 h4) ⟨by decide, by decide⟩ (by decide) dX11_fewest_34 (fun h6 => ?_) (fun h6 => ?_)
            · have h6 : x3 ≤ 1 := by omega
              refine st_aload_n (i := 0) rfl (t := 0) rfl (by decide) dX11_fewest_39 ?_
              refine so_getA 0 10 fr_X11_84_10 rfl sh_0 fx_0_10 dX11_fewest_40 ?_
              refine st_iload_n (i := 1) rfl rfl dX11_fewest_43 ?_
              refine st_iload_n (i := 2) rfl rfl dX11_fewest_44 ?_
              refine st_aload_n (i := 0) rfl (t := 0) rfl (by decide) dX11_fewest_45 ?_
              refine so_getA 0 6 fr_X11_58_10 rfl sh_0 fx_0_6 dX11_fewest_46 ?_
              refine so_getI (v := (mem 47 0)) 47 0 fr_X11_188_6 rfl sh_47 rfl dX11_fewest_49 (fun r2 => ?_)
              refine st_aload_n (i := 0) rfl (t := 0) rfl (by decide) dX11_fewest_52 ?_
              refine so_getA 0 6 fr_X11_58_10 rfl sh_0 fx_0_6 dX11_fewest_53 ?_
              refine so_getI (v := (mem 47 1)) 47 1 fr_X11_274_6 rfl sh_47 rfl dX11_fewest_56 (fun r3 => ?_)
              refine st_iconst dX11_fewest_59 ?_
              refine st_ixor dX11_fewest_60 ?_
              refine st_iand dX11_fewest_61 ?_
              refine st_aload_n (i := 0) rfl (t := 0) rfl (by decide) dX11_fewest_62 ?_
              refine so_getA 0 6 fr_X11_58_10 rfl sh_0 fx_0_6 dX11_fewest_63 ?_
              refine so_getI (v := (mem 47 1)) 47 1 fr_X11_274_6 rfl sh_47 rfl dX11_fewest_66 (fun r4 => ?_)
              refine st_callV (kc2 := 0) (ks2 := 0) (av := [(0, x1), (0, x2), (0, (and32 (mem 47 0) (xor32 (mem 47 1) (-1)))), (0, (mem 47 1))]) 58 7 mr_X11_278 ok_X7_fewestMarks (c1 h1 h2 h3 h4 h5 h6) rfl sh_58 ⟨_, rfl, rfl, by decide⟩ rfl rfl hd_d1 (Nat.le_refl 0) (Nat.le_refl 0) (Nat.le_of_ble_eq_true rfl) dX11_fewest_69 (mQ.elim fun v2 m2 p1 => ?_)
              refine st_istore (by decide) (lc' := [(2, 0), (0, x1), (0, x2), (0, x3), (0, v2)]) rfl dX11_fewest_72 ?_
              refine st_iload rfl dX11_fewest_74 ?_
              refine st_iconst dX11_fewest_76 ?_
              refine sr_icmp_eq 85 (s4 h1 h2 h3 h4 h5 h6 v2 m2 p1) ⟨by decide, by decide⟩ (by decide) dX11_fewest_77 (fun h7 => ?_) (fun h7 => ?_)
              · have h7 : v2 = (-1) := by omega
                refine st_iload rfl dX11_fewest_85 ?_
                refine st_goto 95 (by decide) dX11_fewest_87 ?_
                exact st_ireturn rfl dX11_fewest_95 (mQ.ret (q6 h1 h2 h3 h4 h5 h6 v2 m2 p1 h7))
              · have h7 : ¬ v2 = (-1) := by omega
                refine st_iload_n (i := 3) rfl rfl dX11_fewest_80 ?_
                refine st_iconst dX11_fewest_81 ?_
                refine sr_icmp_ne 90 (s3 h1 h2 h3 h4) ⟨by decide, by decide⟩ (by decide) dX11_fewest_82 (fun h8 => ?_) (fun h8 => ?_)
                · have h8 : ¬ x3 = 1 := by omega
                  refine st_iload rfl dX11_fewest_90 ?_
                  refine st_callS (kc2 := 0) (ks2 := 0) (av := [(0, v2)]) mr_X11_242 ok_J6_bitCount_0f7a4 (c_bitCount m2 v2 ) rfl rfl hd2 (Nat.le_refl 0) (Nat.le_refl 0) (Nat.le_of_ble_eq_true rfl) dX11_fewest_92 (mQ.elim fun v3 m3 hp => ?_)
                  obtain ⟨hpv, hpm⟩ := hp
                  subst hpv
                  have hpm := hpm.symm
                  subst hpm
                  exact st_ireturn rfl dX11_fewest_95 (mQ.ret (q7 h1 h2 h3 h4 h5 h6 v2 m2 p1 h7 h8))
                · have h8 : x3 = 1 := by omega
                  refine st_iload rfl dX11_fewest_85 ?_
                  refine st_goto 95 (by decide) dX11_fewest_87 ?_
                  exact st_ireturn rfl dX11_fewest_95 (mQ.ret (q8 h1 h2 h3 h4 h5 h6 v2 m2 p1 h7 h8))
            · have h6 : 1 < x3 := by omega
              refine st_iconst dX11_fewest_37 ?_
              exact st_ireturn rfl dX11_fewest_38 (mQ.ret (q9 h1 h2 h3 h4 h5 h6))
theorem cn_X12_fewest {d : Nat} {P : Int → mmM → Prop} {mem : mmM} {x1 x2 x3 : Int} (h : mmT bX12_fewest d 0 0 (mQ 0 P) 0 [(2, 65), (0, x1), (0, x2), (0, x3), (9, 0), (9, 0), (9, 0), (9, 0)] [] mS mem) : con 0 bX12_fewest d [(2, 65), (0, x1), (0, x2), (0, x3)] mem P := mmC_of [(2, 65), (0, x1), (0, x2), (0, x3), (9, 0), (9, 0), (9, 0), (9, 0)] ok_X12_fewest.2.2.2.2 rfl (Nat.le_of_ble_eq_true rfl) h
theorem bk_X12_fewest_0 {d : Nat} {P : Int → mmM → Prop} {mem : mmM} {x1 x2 x3 : Int}
  (k1 : (0 < (mem 65 27) ∧ 1 ≤ x2 ∧ x2 ≤ 200) → (0 ≤ x1 ∧ x1 ≤ 1000000000) → (0 ≤ x3 ∧ x3 ≤ 1) → mmT bX12_fewest d 0 0 (mQ 0 P) 45 [(2, 65), (0, x1), (0, x2), (0, x3), (0, (mem 65 31)), (0, (-1)), (0, 0), (0, 1)] [] mS mem)
  (q1 : ¬ (0 < (mem 65 27) ∧ 1 ≤ x2 ∧ x2 ≤ 200) → P (-1) mem)
  (q2 : (0 < (mem 65 27) ∧ 1 ≤ x2 ∧ x2 ≤ 200) → ¬ (0 ≤ x1 ∧ x1 ≤ 1000000000) → P (-1) mem)
  (q3 : (0 < (mem 65 27) ∧ 1 ≤ x2 ∧ x2 ≤ 200) → (0 ≤ x1 ∧ x1 ≤ 1000000000) → ¬ (0 ≤ x3 ∧ x3 ≤ 1) → P (-1) mem)
  (hd2 : 2 ≤ d := by omega)
  (hd3 : 3 ≤ d := by omega)
  (s1 : R32 x2 := by intros; first | omega | assumption | solve_by_elim)
  (s2 : (0 < (mem 65 27) ∧ 1 ≤ x2 ∧ x2 ≤ 200) → R32 x1 := by intros; first | omega | assumption | solve_by_elim)
  (s3 : (0 < (mem 65 27) ∧ 1 ≤ x2 ∧ x2 ≤ 200) → (0 ≤ x1 ∧ x1 ≤ 1000000000) → R32 x3 := by intros; first | omega | assumption | solve_by_elim)
  : mmT bX12_fewest d 0 0 (mQ 0 P) 0 [(2, 65), (0, x1), (0, x2), (0, x3), (9, 0), (9, 0), (9, 0), (9, 0)] [] mS mem := by
  refine st_aload_n (i := 0) rfl (t := 0) rfl (by decide) dX12_fewest_0 ?_
  refine st_iload_n (i := 2) rfl rfl dX12_fewest_1 ?_
  refine st_callV (kc2 := 0) (ks2 := 0) (av := [(0, x2)]) 65 11 mr_X12_408 ok_X12_isMost (c_X12_isMost mem x2 (s1)) rfl sh_65 ⟨_, rfl, rfl, by decide⟩ rfl rfl hd3 (Nat.le_refl 0) (Nat.le_refl 0) (Nat.le_of_ble_eq_true rfl) dX12_fewest_2 (mQ.elim fun v1 m1 hp => ?_)
  obtain ⟨hpv, hpm⟩ := hp
  subst hpv
  have hpm := hpm.symm
  subst hpm
  refine so_ifeqB 28 (by decide) dX12_fewest_5 (fun h1 => ?_) (fun h1 => ?_)
  · have h1 : ¬ (0 < (mem 65 27) ∧ 1 ≤ x2 ∧ x2 ≤ 200) := h1
    refine st_iconst dX12_fewest_28 ?_
    exact st_ireturn rfl dX12_fewest_29 (mQ.ret (q1 h1))
  · have h1 : (0 < (mem 65 27) ∧ 1 ≤ x2 ∧ x2 ≤ 200) := h1
    refine st_iload_n (i := 1) rfl rfl dX12_fewest_8 ?_
    refine st_iconst dX12_fewest_9 ?_
    refine st_ldcw cw_X12_416 dX12_fewest_10 ?_
    refine st_callS (kc2 := 0) (ks2 := 0) (av := [(0, x1), (0, 0), (0, 1000000000)]) mr_X12_229 ok_X12_in (c_X12_in mem x1 0 1000000000 ((s2 h1)) (⟨by decide, by decide⟩) (⟨by decide, by decide⟩)) rfl rfl hd2 (Nat.le_refl 0) (Nat.le_refl 0) (Nat.le_of_ble_eq_true rfl) dX12_fewest_13 (mQ.elim fun v2 m2 hp => ?_)
    obtain ⟨hpv, hpm⟩ := hp
    subst hpv
    have hpm := hpm.symm
    subst hpm
    refine so_ifeqB 28 (by decide) dX12_fewest_16 (fun h2 => ?_) (fun h2 => ?_)
    · have h2 : ¬ (0 ≤ x1 ∧ x1 ≤ 1000000000) := h2
      refine st_iconst dX12_fewest_28 ?_
      exact st_ireturn rfl dX12_fewest_29 (mQ.ret (q2 h1 h2))
    · have h2 : (0 ≤ x1 ∧ x1 ≤ 1000000000) := h2
      refine st_iload_n (i := 3) rfl rfl dX12_fewest_19 ?_
      refine st_iconst dX12_fewest_20 ?_
      refine st_iconst dX12_fewest_21 ?_
      refine st_callS (kc2 := 0) (ks2 := 0) (av := [(0, x3), (0, 0), (0, 1)]) mr_X12_229 ok_X12_in (c_X12_in mem x3 0 1 ((s3 h1 h2)) (⟨by decide, by decide⟩) (⟨by decide, by decide⟩)) rfl rfl hd2 (Nat.le_refl 0) (Nat.le_refl 0) (Nat.le_of_ble_eq_true rfl) dX12_fewest_22 (mQ.elim fun v3 m3 hp => ?_)
      obtain ⟨hpv, hpm⟩ := hp
      subst hpv
      have hpm := hpm.symm
      subst hpm
      refine so_ifneB 30 (by decide) dX12_fewest_25 (fun h3 => ?_) (fun h3 => ?_)
      · have h3 : (0 ≤ x3 ∧ x3 ≤ 1) := h3
        refine st_aload_n (i := 0) rfl (t := 0) rfl (by decide) dX12_fewest_30 ?_
        refine so_getI (v := (mem 65 31)) 65 31 fr_X12_275_11 rfl sh_65 rfl dX12_fewest_31 (fun r1 => ?_)
        refine st_istore (by decide) (lc' := [(2, 65), (0, x1), (0, x2), (0, x3), (0, (mem 65 31)), (9, 0), (9, 0), (9, 0)]) rfl dX12_fewest_34 ?_
        refine st_iconst dX12_fewest_36 ?_
        refine st_istore (by decide) (lc' := [(2, 65), (0, x1), (0, x2), (0, x3), (0, (mem 65 31)), (0, (-1)), (9, 0), (9, 0)]) rfl dX12_fewest_37 ?_
        refine st_iconst dX12_fewest_39 ?_
        refine st_istore (by decide) (lc' := [(2, 65), (0, x1), (0, x2), (0, x3), (0, (mem 65 31)), (0, (-1)), (0, 0), (9, 0)]) rfl dX12_fewest_40 ?_
        refine st_iconst dX12_fewest_42 ?_
        refine st_istore (by decide) (lc' := [(2, 65), (0, x1), (0, x2), (0, x3), (0, (mem 65 31)), (0, (-1)), (0, 0), (0, 1)]) rfl dX12_fewest_43 ?_
        exact st_locals [(2, 65), (0, x1), (0, x2), (0, x3), (0, (mem 65 31)), (0, (-1)), (0, 0), (0, 1)] ⟨Or.inr rfl, Or.inr rfl, Or.inr rfl, Or.inr rfl, Or.inr rfl, Or.inr rfl, Or.inr rfl, Or.inr rfl, trivial⟩ (k1 h1 h2 h3)
      · have h3 : ¬ (0 ≤ x3 ∧ x3 ≤ 1) := h3
        refine st_iconst dX12_fewest_28 ?_
        exact st_ireturn rfl dX12_fewest_29 (mQ.ret (q3 h1 h2 h3))
theorem bk_X12_fewest_45 {d : Nat} {d1 : Nat} {P1 : Int → mmM → Prop} {d2 : Nat} {P2 : Int → mmM → Prop} {P : Int → mmM → Prop} {mem : mmM} {x1 x2 x3 x4 x5 x6 x7 : Int}
  (c1 : ¬ x7 = 0 → x5 = (-1) → con 0 bX12_chanceOf d1 [(2, 65), (0, x2), (0, (-1))] (mset mem 65 31 (or32 (and32 x4 (xor32 (mem 65 32) (-1))) x6)) P1)
  (c2 : ¬ x7 = 0 → ¬ x5 = (-1) → (bcS x6) < (bcS x5) → con 0 bX12_chanceOf d2 [(2, 65), (0, x2), (0, (-1))] (mset mem 65 31 (or32 (and32 x4 (xor32 (mem 65 32) (-1))) x6)) P2)
  (k1 : ¬ x7 = 0 → x5 = (-1) → ∀ (v2 : Int), ∀ (m2 : mmM), P1 v2 m2 → v2 < x1 → (and32 (x6 - (m2 65 32)) (m2 65 32)) = 0 → mmT bX12_fewest d 0 0 (mQ 0 P) 45 [(2, 65), (0, x1), (0, x2), (0, x3), (0, x4), (0, x5), (0, (and32 (x6 - (m2 65 32)) (m2 65 32))), (0, 0)] [] mS m2)
  (k2 : ¬ x7 = 0 → x5 = (-1) → ∀ (v2 : Int), ∀ (m2 : mmM), P1 v2 m2 → v2 < x1 → ¬ (and32 (x6 - (m2 65 32)) (m2 65 32)) = 0 → mmT bX12_fewest d 0 0 (mQ 0 P) 45 [(2, 65), (0, x1), (0, x2), (0, x3), (0, x4), (0, x5), (0, (and32 (x6 - (m2 65 32)) (m2 65 32))), (0, 1)] [] mS m2)
  (k3 : ¬ x7 = 0 → x5 = (-1) → ∀ (v2 : Int), ∀ (m2 : mmM), P1 v2 m2 → x1 ≤ v2 → (and32 (x6 - (m2 65 32)) (m2 65 32)) = 0 → mmT bX12_fewest d 0 0 (mQ 0 P) 45 [(2, 65), (0, x1), (0, x2), (0, x3), (0, x4), (0, x6), (0, (and32 (x6 - (m2 65 32)) (m2 65 32))), (0, 0)] [] mS m2)
  (k4 : ¬ x7 = 0 → x5 = (-1) → ∀ (v2 : Int), ∀ (m2 : mmM), P1 v2 m2 → x1 ≤ v2 → ¬ (and32 (x6 - (m2 65 32)) (m2 65 32)) = 0 → mmT bX12_fewest d 0 0 (mQ 0 P) 45 [(2, 65), (0, x1), (0, x2), (0, x3), (0, x4), (0, x6), (0, (and32 (x6 - (m2 65 32)) (m2 65 32))), (0, 1)] [] mS m2)
  (k5 : ¬ x7 = 0 → ¬ x5 = (-1) → (bcS x5) ≤ (bcS x6) → (and32 (x6 - (mem 65 32)) (mem 65 32)) = 0 → mmT bX12_fewest d 0 0 (mQ 0 P) 45 [(2, 65), (0, x1), (0, x2), (0, x3), (0, x4), (0, x5), (0, (and32 (x6 - (mem 65 32)) (mem 65 32))), (0, 0)] [] mS mem)
  (k6 : ¬ x7 = 0 → ¬ x5 = (-1) → (bcS x5) ≤ (bcS x6) → ¬ (and32 (x6 - (mem 65 32)) (mem 65 32)) = 0 → mmT bX12_fewest d 0 0 (mQ 0 P) 45 [(2, 65), (0, x1), (0, x2), (0, x3), (0, x4), (0, x5), (0, (and32 (x6 - (mem 65 32)) (mem 65 32))), (0, 1)] [] mS mem)
  (k7 : ¬ x7 = 0 → ¬ x5 = (-1) → (bcS x6) < (bcS x5) → ∀ (v5 : Int), ∀ (m5 : mmM), P2 v5 m5 → v5 < x1 → (and32 (x6 - (m5 65 32)) (m5 65 32)) = 0 → mmT bX12_fewest d 0 0 (mQ 0 P) 45 [(2, 65), (0, x1), (0, x2), (0, x3), (0, x4), (0, x5), (0, (and32 (x6 - (m5 65 32)) (m5 65 32))), (0, 0)] [] mS m5)
  (k8 : ¬ x7 = 0 → ¬ x5 = (-1) → (bcS x6) < (bcS x5) → ∀ (v5 : Int), ∀ (m5 : mmM), P2 v5 m5 → v5 < x1 → ¬ (and32 (x6 - (m5 65 32)) (m5 65 32)) = 0 → mmT bX12_fewest d 0 0 (mQ 0 P) 45 [(2, 65), (0, x1), (0, x2), (0, x3), (0, x4), (0, x5), (0, (and32 (x6 - (m5 65 32)) (m5 65 32))), (0, 1)] [] mS m5)
  (k9 : ¬ x7 = 0 → ¬ x5 = (-1) → (bcS x6) < (bcS x5) → ∀ (v5 : Int), ∀ (m5 : mmM), P2 v5 m5 → x1 ≤ v5 → (and32 (x6 - (m5 65 32)) (m5 65 32)) = 0 → mmT bX12_fewest d 0 0 (mQ 0 P) 45 [(2, 65), (0, x1), (0, x2), (0, x3), (0, x4), (0, x6), (0, (and32 (x6 - (m5 65 32)) (m5 65 32))), (0, 0)] [] mS m5)
  (k10 : ¬ x7 = 0 → ¬ x5 = (-1) → (bcS x6) < (bcS x5) → ∀ (v5 : Int), ∀ (m5 : mmM), P2 v5 m5 → x1 ≤ v5 → ¬ (and32 (x6 - (m5 65 32)) (m5 65 32)) = 0 → mmT bX12_fewest d 0 0 (mQ 0 P) 45 [(2, 65), (0, x1), (0, x2), (0, x3), (0, x4), (0, x6), (0, (and32 (x6 - (m5 65 32)) (m5 65 32))), (0, 1)] [] mS m5)
  (q1 : x7 = 0 → x5 = (-1) → P x5 (mset mem 65 31 x4))
  (q2 : x7 = 0 → ¬ x5 = (-1) → ¬ x3 = 1 → P (bcS x5) (mset mem 65 31 x4))
  (q3 : x7 = 0 → ¬ x5 = (-1) → x3 = 1 → P x5 (mset mem 65 31 x4))
  (hd_d1 : d1 + 1 ≤ d := by omega)
  (hd_d2 : d2 + 1 ≤ d := by omega)
  (hd2 : 2 ≤ d := by omega)
  (s1 : R32 x7 := by intros; first | omega | assumption | solve_by_elim)
  (s2 : x7 = 0 → R32 x4 := by intros; first | omega | assumption | solve_by_elim)
  (s3 : x7 = 0 → R32 x5 := by intros; first | omega | assumption | solve_by_elim)
  (s4 : x7 = 0 → ¬ x5 = (-1) → R32 x3 := by intros; first | omega | assumption | solve_by_elim)
  (s5 : ¬ x7 = 0 → R32 x5 := by intros; first | omega | assumption | solve_by_elim)
  (s6 : ¬ x7 = 0 → x5 = (-1) → ∀ (v2 : Int), ∀ (m2 : mmM), P1 v2 m2 → R32 v2 := by intros; first | omega | assumption | solve_by_elim)
  (s7 : ¬ x7 = 0 → x5 = (-1) → ∀ (v2 : Int), ∀ (m2 : mmM), P1 v2 m2 → R32 x1 := by intros; first | omega | assumption | solve_by_elim)
  (s8 : ¬ x7 = 0 → ¬ x5 = (-1) → (bcS x6) < (bcS x5) → ∀ (v5 : Int), ∀ (m5 : mmM), P2 v5 m5 → R32 v5 := by intros; first | omega | assumption | solve_by_elim)
  (s9 : ¬ x7 = 0 → ¬ x5 = (-1) → (bcS x6) < (bcS x5) → ∀ (v5 : Int), ∀ (m5 : mmM), P2 v5 m5 → R32 x1 := by intros; first | omega | assumption | solve_by_elim)
  : mmT bX12_fewest d 0 0 (mQ 0 P) 45 [(2, 65), (0, x1), (0, x2), (0, x3), (0, x4), (0, x5), (0, x6), (0, x7)] [] mS mem := by
  refine st_iload rfl dX12_fewest_45 ?_
  refine sr_if_eq 133 s1 (by decide) dX12_fewest_47 (fun h1 => ?_) (fun h1 => ?_)
  · have h1 : x7 = 0 := by omega
    refine st_aload_n (i := 0) rfl (t := 0) rfl (by decide) dX12_fewest_133 ?_
    refine st_iload rfl dX12_fewest_134 ?_
    refine so_putI 65 31 fr_X12_275_11 pf_11_31 fo_65_31 rfl sh_65 (s2 h1) dX12_fewest_136 ?_
    refine st_iload rfl dX12_fewest_139 ?_
    refine st_iconst dX12_fewest_141 ?_
    refine sr_icmp_eq 150 (s3 h1) ⟨by decide, by decide⟩ (by decide) dX12_fewest_142 (fun h2 => ?_) (fun h2 => ?_)
    · have h2 : x5 = (-1) := by omega
      refine st_iload rfl dX12_fewest_150 ?_
      refine st_goto 160 (by decide) dX12_fewest_152 ?_
      exact st_ireturn rfl dX12_fewest_160 (mQ.ret (q1 h1 h2))
    · have h2 : ¬ x5 = (-1) := by omega
      refine st_iload_n (i := 3) rfl rfl dX12_fewest_145 ?_
      refine st_iconst dX12_fewest_146 ?_
      refine sr_icmp_ne 155 (s4 h1 h2) ⟨by decide, by decide⟩ (by decide) dX12_fewest_147 (fun h3 => ?_) (fun h3 => ?_)
      · have h3 : ¬ x3 = 1 := by omega
        refine st_iload rfl dX12_fewest_155 ?_
        refine st_callS (kc2 := 0) (ks2 := 0) (av := [(0, x5)]) mr_X12_245 ok_J6_bitCount_0f7a4 (c_bitCount (mset mem 65 31 x4) x5 ) rfl rfl hd2 (Nat.le_refl 0) (Nat.le_refl 0) (Nat.le_of_ble_eq_true rfl) dX12_fewest_157 (mQ.elim fun v1 m1 hp => ?_)
        obtain ⟨hpv, hpm⟩ := hp
        subst hpv
        have hpm := hpm.symm
        subst hpm
        exact st_ireturn rfl dX12_fewest_160 (mQ.ret (q2 h1 h2 h3))
      · have h3 : x3 = 1 := by omega
        refine st_iload rfl dX12_fewest_150 ?_
        refine st_goto 160 (by decide) dX12_fewest_152 ?_
        exact st_ireturn rfl dX12_fewest_160 (mQ.ret (q3 h1 h2 h3))
  · have h1 : ¬ x7 = 0 := by omega
    refine st_iload rfl dX12_fewest_50 ?_
    refine st_iconst dX12_fewest_52 ?_
    refine sr_icmp_eq 69 (s5 h1) ⟨by decide, by decide⟩ (by decide) dX12_fewest_53 (fun h4 => ?_) (fun h4 => ?_)
    · have h4 : x5 = (-1) := by omega
      refine st_aload_n (i := 0) rfl (t := 0) rfl (by decide) dX12_fewest_69 ?_
      refine st_iload rfl dX12_fewest_70 ?_
      refine st_aload_n (i := 0) rfl (t := 0) rfl (by decide) dX12_fewest_72 ?_
      refine so_getI (v := (mem 65 32)) 65 32 fr_X12_281_11 rfl sh_65 rfl dX12_fewest_73 (fun r1 => ?_)
      refine st_iconst dX12_fewest_76 ?_
      refine st_ixor dX12_fewest_77 ?_
      refine st_iand dX12_fewest_78 ?_
      refine st_iload rfl dX12_fewest_79 ?_
      refine st_ior dX12_fewest_81 ?_
      refine so_putI 65 31 fr_X12_275_11 pf_11_31 fo_65_31 rfl sh_65 (or32_rng (and32 x4 (xor32 (mem 65 32) (-1))) x6) dX12_fewest_82 ?_
      refine st_aload_n (i := 0) rfl (t := 0) rfl (by decide) dX12_fewest_85 ?_
      refine st_iload_n (i := 2) rfl rfl dX12_fewest_86 ?_
      refine st_iconst dX12_fewest_87 ?_
      refine st_callV (kc2 := 0) (ks2 := 0) (av := [(0, x2), (0, (-1))]) 65 11 mr_X12_411 ok_X12_chanceOf (c1 h1 h4) rfl sh_65 ⟨_, rfl, rfl, by decide⟩ rfl rfl hd_d1 (Nat.le_refl 0) (Nat.le_refl 0) (Nat.le_of_ble_eq_true rfl) dX12_fewest_88 (mQ.elim fun v2 m2 p1 => ?_)
      refine st_iload_n (i := 1) rfl rfl dX12_fewest_91 ?_
      refine sr_icmp_lt 100 (s6 h1 h4 v2 m2 p1) (s7 h1 h4 v2 m2 p1) (by decide) dX12_fewest_92 (fun h5 => ?_) (fun h5 => ?_)
      · have h5 : v2 < x1 := by omega
        refine st_iload rfl dX12_fewest_100 ?_
        refine st_istore (by decide) (lc' := [(2, 65), (0, x1), (0, x2), (0, x3), (0, x4), (0, x5), (0, x6), (0, x7)]) rfl dX12_fewest_102 ?_
        refine st_iload rfl dX12_fewest_104 ?_
        refine st_aload_n (i := 0) rfl (t := 0) rfl (by decide) dX12_fewest_106 ?_
        refine so_getI (v := (m2 65 32)) 65 32 fr_X12_281_11 rfl sh_65 rfl dX12_fewest_107 (fun r2 => ?_)
        refine st_isub dX12_fewest_110 ?_
        refine st_aload_n (i := 0) rfl (t := 0) rfl (by decide) dX12_fewest_111 ?_
        refine so_getI (v := (m2 65 32)) 65 32 fr_X12_281_11 rfl sh_65 rfl dX12_fewest_112 (fun r3 => ?_)
        refine st_iand dX12_fewest_115 ?_
        refine st_istore (by decide) (lc' := [(2, 65), (0, x1), (0, x2), (0, x3), (0, x4), (0, x5), (0, (and32 (x6 - (m2 65 32)) (m2 65 32))), (0, x7)]) rfl dX12_fewest_116 ?_
        refine st_iload rfl dX12_fewest_118 ?_
        refine sr_if_eq 127 (and32_rng (x6 - (m2 65 32)) (m2 65 32)) (by decide) dX12_fewest_120 (fun h6 => ?_) (fun h6 => ?_)
        · have h6 : (and32 (x6 - (m2 65 32)) (m2 65 32)) = 0 := by omega
          refine st_iconst dX12_fewest_127 ?_
          refine st_istore (by decide) (lc' := [(2, 65), (0, x1), (0, x2), (0, x3), (0, x4), (0, x5), (0, (and32 (x6 - (m2 65 32)) (m2 65 32))), (0, 0)]) rfl dX12_fewest_128 ?_
          refine st_goto 45 (by decide) dX12_fewest_130 ?_
          exact st_locals [(2, 65), (0, x1), (0, x2), (0, x3), (0, x4), (0, x5), (0, (and32 (x6 - (m2 65 32)) (m2 65 32))), (0, 0)] ⟨Or.inr rfl, Or.inr rfl, Or.inr rfl, Or.inr rfl, Or.inr rfl, Or.inr rfl, Or.inr rfl, Or.inr rfl, trivial⟩ (k1 h1 h4 v2 m2 p1 h5 h6)
        · have h6 : ¬ (and32 (x6 - (m2 65 32)) (m2 65 32)) = 0 := by omega
          refine st_iconst dX12_fewest_123 ?_
          refine st_goto 128 (by decide) dX12_fewest_124 ?_
          refine st_istore (by decide) (lc' := [(2, 65), (0, x1), (0, x2), (0, x3), (0, x4), (0, x5), (0, (and32 (x6 - (m2 65 32)) (m2 65 32))), (0, 1)]) rfl dX12_fewest_128 ?_
          refine st_goto 45 (by decide) dX12_fewest_130 ?_
          exact st_locals [(2, 65), (0, x1), (0, x2), (0, x3), (0, x4), (0, x5), (0, (and32 (x6 - (m2 65 32)) (m2 65 32))), (0, 1)] ⟨Or.inr rfl, Or.inr rfl, Or.inr rfl, Or.inr rfl, Or.inr rfl, Or.inr rfl, Or.inr rfl, Or.inr rfl, trivial⟩ (k2 h1 h4 v2 m2 p1 h5 h6)
      · have h5 : x1 ≤ v2 := by omega
        refine st_iload rfl dX12_fewest_95 ?_
        refine st_goto 102 (by decide) dX12_fewest_97 ?_
        refine st_istore (by decide) (lc' := [(2, 65), (0, x1), (0, x2), (0, x3), (0, x4), (0, x6), (0, x6), (0, x7)]) rfl dX12_fewest_102 ?_
        refine st_iload rfl dX12_fewest_104 ?_
        refine st_aload_n (i := 0) rfl (t := 0) rfl (by decide) dX12_fewest_106 ?_
        refine so_getI (v := (m2 65 32)) 65 32 fr_X12_281_11 rfl sh_65 rfl dX12_fewest_107 (fun r4 => ?_)
        refine st_isub dX12_fewest_110 ?_
        refine st_aload_n (i := 0) rfl (t := 0) rfl (by decide) dX12_fewest_111 ?_
        refine so_getI (v := (m2 65 32)) 65 32 fr_X12_281_11 rfl sh_65 rfl dX12_fewest_112 (fun r5 => ?_)
        refine st_iand dX12_fewest_115 ?_
        refine st_istore (by decide) (lc' := [(2, 65), (0, x1), (0, x2), (0, x3), (0, x4), (0, x6), (0, (and32 (x6 - (m2 65 32)) (m2 65 32))), (0, x7)]) rfl dX12_fewest_116 ?_
        refine st_iload rfl dX12_fewest_118 ?_
        refine sr_if_eq 127 (and32_rng (x6 - (m2 65 32)) (m2 65 32)) (by decide) dX12_fewest_120 (fun h7 => ?_) (fun h7 => ?_)
        · have h7 : (and32 (x6 - (m2 65 32)) (m2 65 32)) = 0 := by omega
          refine st_iconst dX12_fewest_127 ?_
          refine st_istore (by decide) (lc' := [(2, 65), (0, x1), (0, x2), (0, x3), (0, x4), (0, x6), (0, (and32 (x6 - (m2 65 32)) (m2 65 32))), (0, 0)]) rfl dX12_fewest_128 ?_
          refine st_goto 45 (by decide) dX12_fewest_130 ?_
          exact st_locals [(2, 65), (0, x1), (0, x2), (0, x3), (0, x4), (0, x6), (0, (and32 (x6 - (m2 65 32)) (m2 65 32))), (0, 0)] ⟨Or.inr rfl, Or.inr rfl, Or.inr rfl, Or.inr rfl, Or.inr rfl, Or.inr rfl, Or.inr rfl, Or.inr rfl, trivial⟩ (k3 h1 h4 v2 m2 p1 h5 h7)
        · have h7 : ¬ (and32 (x6 - (m2 65 32)) (m2 65 32)) = 0 := by omega
          refine st_iconst dX12_fewest_123 ?_
          refine st_goto 128 (by decide) dX12_fewest_124 ?_
          refine st_istore (by decide) (lc' := [(2, 65), (0, x1), (0, x2), (0, x3), (0, x4), (0, x6), (0, (and32 (x6 - (m2 65 32)) (m2 65 32))), (0, 1)]) rfl dX12_fewest_128 ?_
          refine st_goto 45 (by decide) dX12_fewest_130 ?_
          exact st_locals [(2, 65), (0, x1), (0, x2), (0, x3), (0, x4), (0, x6), (0, (and32 (x6 - (m2 65 32)) (m2 65 32))), (0, 1)] ⟨Or.inr rfl, Or.inr rfl, Or.inr rfl, Or.inr rfl, Or.inr rfl, Or.inr rfl, Or.inr rfl, Or.inr rfl, trivial⟩ (k4 h1 h4 v2 m2 p1 h5 h7)
    · have h4 : ¬ x5 = (-1) := by omega
      refine st_iload rfl dX12_fewest_56 ?_
      refine st_callS (kc2 := 0) (ks2 := 0) (av := [(0, x6)]) mr_X12_245 ok_J6_bitCount_0f7a4 (c_bitCount mem x6 ) rfl rfl hd2 (Nat.le_refl 0) (Nat.le_refl 0) (Nat.le_of_ble_eq_true rfl) dX12_fewest_58 (mQ.elim fun v3 m3 hp => ?_)
      obtain ⟨hpv, hpm⟩ := hp
      subst hpv
      have hpm := hpm.symm
      subst hpm
      refine st_iload rfl dX12_fewest_61 ?_
      refine st_callS (kc2 := 0) (ks2 := 0) (av := [(0, x5)]) mr_X12_245 ok_J6_bitCount_0f7a4 (c_bitCount mem x5 ) rfl rfl hd2 (Nat.le_refl 0) (Nat.le_refl 0) (Nat.le_of_ble_eq_true rfl) dX12_fewest_63 (mQ.elim fun v4 m4 hp => ?_)
      obtain ⟨hpv, hpm⟩ := hp
      subst hpv
      have hpm := hpm.symm
      subst hpm
      refine sr_icmp_ge 104 (bcS_rng x6) (bcS_rng x5) (by decide) dX12_fewest_66 (fun h8 => ?_) (fun h8 => ?_)
      · have h8 : (bcS x5) ≤ (bcS x6) := by omega
        refine st_iload rfl dX12_fewest_104 ?_
        refine st_aload_n (i := 0) rfl (t := 0) rfl (by decide) dX12_fewest_106 ?_
        refine so_getI (v := (mem 65 32)) 65 32 fr_X12_281_11 rfl sh_65 rfl dX12_fewest_107 (fun r6 => ?_)
        refine st_isub dX12_fewest_110 ?_
        refine st_aload_n (i := 0) rfl (t := 0) rfl (by decide) dX12_fewest_111 ?_
        refine so_getI (v := (mem 65 32)) 65 32 fr_X12_281_11 rfl sh_65 rfl dX12_fewest_112 (fun r7 => ?_)
        refine st_iand dX12_fewest_115 ?_
        refine st_istore (by decide) (lc' := [(2, 65), (0, x1), (0, x2), (0, x3), (0, x4), (0, x5), (0, (and32 (x6 - (mem 65 32)) (mem 65 32))), (0, x7)]) rfl dX12_fewest_116 ?_
        refine st_iload rfl dX12_fewest_118 ?_
        refine sr_if_eq 127 (and32_rng (x6 - (mem 65 32)) (mem 65 32)) (by decide) dX12_fewest_120 (fun h9 => ?_) (fun h9 => ?_)
        · have h9 : (and32 (x6 - (mem 65 32)) (mem 65 32)) = 0 := by omega
          refine st_iconst dX12_fewest_127 ?_
          refine st_istore (by decide) (lc' := [(2, 65), (0, x1), (0, x2), (0, x3), (0, x4), (0, x5), (0, (and32 (x6 - (mem 65 32)) (mem 65 32))), (0, 0)]) rfl dX12_fewest_128 ?_
          refine st_goto 45 (by decide) dX12_fewest_130 ?_
          exact st_locals [(2, 65), (0, x1), (0, x2), (0, x3), (0, x4), (0, x5), (0, (and32 (x6 - (mem 65 32)) (mem 65 32))), (0, 0)] ⟨Or.inr rfl, Or.inr rfl, Or.inr rfl, Or.inr rfl, Or.inr rfl, Or.inr rfl, Or.inr rfl, Or.inr rfl, trivial⟩ (k5 h1 h4 h8 h9)
        · have h9 : ¬ (and32 (x6 - (mem 65 32)) (mem 65 32)) = 0 := by omega
          refine st_iconst dX12_fewest_123 ?_
          refine st_goto 128 (by decide) dX12_fewest_124 ?_
          refine st_istore (by decide) (lc' := [(2, 65), (0, x1), (0, x2), (0, x3), (0, x4), (0, x5), (0, (and32 (x6 - (mem 65 32)) (mem 65 32))), (0, 1)]) rfl dX12_fewest_128 ?_
          refine st_goto 45 (by decide) dX12_fewest_130 ?_
          exact st_locals [(2, 65), (0, x1), (0, x2), (0, x3), (0, x4), (0, x5), (0, (and32 (x6 - (mem 65 32)) (mem 65 32))), (0, 1)] ⟨Or.inr rfl, Or.inr rfl, Or.inr rfl, Or.inr rfl, Or.inr rfl, Or.inr rfl, Or.inr rfl, Or.inr rfl, trivial⟩ (k6 h1 h4 h8 h9)
      · have h8 : (bcS x6) < (bcS x5) := by omega
        refine st_aload_n (i := 0) rfl (t := 0) rfl (by decide) dX12_fewest_69 ?_
        refine st_iload rfl dX12_fewest_70 ?_
        refine st_aload_n (i := 0) rfl (t := 0) rfl (by decide) dX12_fewest_72 ?_
        refine so_getI (v := (mem 65 32)) 65 32 fr_X12_281_11 rfl sh_65 rfl dX12_fewest_73 (fun r8 => ?_)
        refine st_iconst dX12_fewest_76 ?_
        refine st_ixor dX12_fewest_77 ?_
        refine st_iand dX12_fewest_78 ?_
        refine st_iload rfl dX12_fewest_79 ?_
        refine st_ior dX12_fewest_81 ?_
        refine so_putI 65 31 fr_X12_275_11 pf_11_31 fo_65_31 rfl sh_65 (or32_rng (and32 x4 (xor32 (mem 65 32) (-1))) x6) dX12_fewest_82 ?_
        refine st_aload_n (i := 0) rfl (t := 0) rfl (by decide) dX12_fewest_85 ?_
        refine st_iload_n (i := 2) rfl rfl dX12_fewest_86 ?_
        refine st_iconst dX12_fewest_87 ?_
        refine st_callV (kc2 := 0) (ks2 := 0) (av := [(0, x2), (0, (-1))]) 65 11 mr_X12_411 ok_X12_chanceOf (c2 h1 h4 h8) rfl sh_65 ⟨_, rfl, rfl, by decide⟩ rfl rfl hd_d2 (Nat.le_refl 0) (Nat.le_refl 0) (Nat.le_of_ble_eq_true rfl) dX12_fewest_88 (mQ.elim fun v5 m5 p2 => ?_)
        refine st_iload_n (i := 1) rfl rfl dX12_fewest_91 ?_
        refine sr_icmp_lt 100 (s8 h1 h4 h8 v5 m5 p2) (s9 h1 h4 h8 v5 m5 p2) (by decide) dX12_fewest_92 (fun h10 => ?_) (fun h10 => ?_)
        · have h10 : v5 < x1 := by omega
          refine st_iload rfl dX12_fewest_100 ?_
          refine st_istore (by decide) (lc' := [(2, 65), (0, x1), (0, x2), (0, x3), (0, x4), (0, x5), (0, x6), (0, x7)]) rfl dX12_fewest_102 ?_
          refine st_iload rfl dX12_fewest_104 ?_
          refine st_aload_n (i := 0) rfl (t := 0) rfl (by decide) dX12_fewest_106 ?_
          refine so_getI (v := (m5 65 32)) 65 32 fr_X12_281_11 rfl sh_65 rfl dX12_fewest_107 (fun r9 => ?_)
          refine st_isub dX12_fewest_110 ?_
          refine st_aload_n (i := 0) rfl (t := 0) rfl (by decide) dX12_fewest_111 ?_
          refine so_getI (v := (m5 65 32)) 65 32 fr_X12_281_11 rfl sh_65 rfl dX12_fewest_112 (fun r10 => ?_)
          refine st_iand dX12_fewest_115 ?_
          refine st_istore (by decide) (lc' := [(2, 65), (0, x1), (0, x2), (0, x3), (0, x4), (0, x5), (0, (and32 (x6 - (m5 65 32)) (m5 65 32))), (0, x7)]) rfl dX12_fewest_116 ?_
          refine st_iload rfl dX12_fewest_118 ?_
          refine sr_if_eq 127 (and32_rng (x6 - (m5 65 32)) (m5 65 32)) (by decide) dX12_fewest_120 (fun h11 => ?_) (fun h11 => ?_)
          · have h11 : (and32 (x6 - (m5 65 32)) (m5 65 32)) = 0 := by omega
            refine st_iconst dX12_fewest_127 ?_
            refine st_istore (by decide) (lc' := [(2, 65), (0, x1), (0, x2), (0, x3), (0, x4), (0, x5), (0, (and32 (x6 - (m5 65 32)) (m5 65 32))), (0, 0)]) rfl dX12_fewest_128 ?_
            refine st_goto 45 (by decide) dX12_fewest_130 ?_
            exact st_locals [(2, 65), (0, x1), (0, x2), (0, x3), (0, x4), (0, x5), (0, (and32 (x6 - (m5 65 32)) (m5 65 32))), (0, 0)] ⟨Or.inr rfl, Or.inr rfl, Or.inr rfl, Or.inr rfl, Or.inr rfl, Or.inr rfl, Or.inr rfl, Or.inr rfl, trivial⟩ (k7 h1 h4 h8 v5 m5 p2 h10 h11)
          · have h11 : ¬ (and32 (x6 - (m5 65 32)) (m5 65 32)) = 0 := by omega
            refine st_iconst dX12_fewest_123 ?_
            refine st_goto 128 (by decide) dX12_fewest_124 ?_
            refine st_istore (by decide) (lc' := [(2, 65), (0, x1), (0, x2), (0, x3), (0, x4), (0, x5), (0, (and32 (x6 - (m5 65 32)) (m5 65 32))), (0, 1)]) rfl dX12_fewest_128 ?_
            refine st_goto 45 (by decide) dX12_fewest_130 ?_
            exact st_locals [(2, 65), (0, x1), (0, x2), (0, x3), (0, x4), (0, x5), (0, (and32 (x6 - (m5 65 32)) (m5 65 32))), (0, 1)] ⟨Or.inr rfl, Or.inr rfl, Or.inr rfl, Or.inr rfl, Or.inr rfl, Or.inr rfl, Or.inr rfl, Or.inr rfl, trivial⟩ (k8 h1 h4 h8 v5 m5 p2 h10 h11)
        · have h10 : x1 ≤ v5 := by omega
          refine st_iload rfl dX12_fewest_95 ?_
          refine st_goto 102 (by decide) dX12_fewest_97 ?_
          refine st_istore (by decide) (lc' := [(2, 65), (0, x1), (0, x2), (0, x3), (0, x4), (0, x6), (0, x6), (0, x7)]) rfl dX12_fewest_102 ?_
          refine st_iload rfl dX12_fewest_104 ?_
          refine st_aload_n (i := 0) rfl (t := 0) rfl (by decide) dX12_fewest_106 ?_
          refine so_getI (v := (m5 65 32)) 65 32 fr_X12_281_11 rfl sh_65 rfl dX12_fewest_107 (fun r11 => ?_)
          refine st_isub dX12_fewest_110 ?_
          refine st_aload_n (i := 0) rfl (t := 0) rfl (by decide) dX12_fewest_111 ?_
          refine so_getI (v := (m5 65 32)) 65 32 fr_X12_281_11 rfl sh_65 rfl dX12_fewest_112 (fun r12 => ?_)
          refine st_iand dX12_fewest_115 ?_
          refine st_istore (by decide) (lc' := [(2, 65), (0, x1), (0, x2), (0, x3), (0, x4), (0, x6), (0, (and32 (x6 - (m5 65 32)) (m5 65 32))), (0, x7)]) rfl dX12_fewest_116 ?_
          refine st_iload rfl dX12_fewest_118 ?_
          refine sr_if_eq 127 (and32_rng (x6 - (m5 65 32)) (m5 65 32)) (by decide) dX12_fewest_120 (fun h12 => ?_) (fun h12 => ?_)
          · have h12 : (and32 (x6 - (m5 65 32)) (m5 65 32)) = 0 := by omega
            refine st_iconst dX12_fewest_127 ?_
            refine st_istore (by decide) (lc' := [(2, 65), (0, x1), (0, x2), (0, x3), (0, x4), (0, x6), (0, (and32 (x6 - (m5 65 32)) (m5 65 32))), (0, 0)]) rfl dX12_fewest_128 ?_
            refine st_goto 45 (by decide) dX12_fewest_130 ?_
            exact st_locals [(2, 65), (0, x1), (0, x2), (0, x3), (0, x4), (0, x6), (0, (and32 (x6 - (m5 65 32)) (m5 65 32))), (0, 0)] ⟨Or.inr rfl, Or.inr rfl, Or.inr rfl, Or.inr rfl, Or.inr rfl, Or.inr rfl, Or.inr rfl, Or.inr rfl, trivial⟩ (k9 h1 h4 h8 v5 m5 p2 h10 h12)
          · have h12 : ¬ (and32 (x6 - (m5 65 32)) (m5 65 32)) = 0 := by omega
            refine st_iconst dX12_fewest_123 ?_
            refine st_goto 128 (by decide) dX12_fewest_124 ?_
            refine st_istore (by decide) (lc' := [(2, 65), (0, x1), (0, x2), (0, x3), (0, x4), (0, x6), (0, (and32 (x6 - (m5 65 32)) (m5 65 32))), (0, 1)]) rfl dX12_fewest_128 ?_
            refine st_goto 45 (by decide) dX12_fewest_130 ?_
            exact st_locals [(2, 65), (0, x1), (0, x2), (0, x3), (0, x4), (0, x6), (0, (and32 (x6 - (m5 65 32)) (m5 65 32))), (0, 1)] ⟨Or.inr rfl, Or.inr rfl, Or.inr rfl, Or.inr rfl, Or.inr rfl, Or.inr rfl, Or.inr rfl, Or.inr rfl, trivial⟩ (k10 h1 h4 h8 v5 m5 p2 h10 h12)
theorem p2_nat (k : Nat) : p2 (k : Int) = ((2 ^ k : Nat) : Int) := rfl
theorem c_X7_spread (mem : mmM) (j : Nat) (x1 : Int) (h1 : 0 ≤ x1 ∧ x1 < 16777216) (hj : j < 16777216) : con 0 bX7_spread 1 [(0, (j : Int)), (0, x1)] mem (fun v m => v = (spr 24 x1.toNat j : Int) ∧ m = mem) := by
  refine cn_X7_spread (bk_X7_spread_0 ?_)
  have e24 : (2 : Nat) ^ 24 = 16777216 := rfl
  have key : ∀ (w : Nat) (i : Nat) (marks : Int) (rest : Nat), i + w = 24 → (0 ≤ marks ∧ marks < p2 i) → rest < 16777216 → marks + ((2 ^ i * spr w (x1.toNat / 2 ^ i) rest : Nat) : Int) = (spr 24 x1.toNat j : Int) → mmT bX7_spread 1 0 0 (mQ 0 (fun v m => v = (spr 24 x1.toNat j : Int) ∧ m = mem)) 7 [(9, 0), (0, x1), (0, marks), (0, (rest : Int)), (0, (i : Int))] [] mS mem := by
    intro w
    induction w with
    | zero =>
      intro i marks rest hi hm hr he
      refine bk_X7_spread_7 (fun g => by omega) (fun g => by omega) (fun g => ⟨?_, rfl⟩)
      rw [← he]
      show marks = marks + ((2 ^ i * 0 : Nat) : Int)
      rw [Nat.mul_zero]
      omega
    | succ w ih =>
      intro i marks rest hi hm hr he
      have pp := p2_pos (i : Int)
      have pm := p2_lt (i := (i : Int)) (j := 24) (by omega) (by omega)
      have e24' : p2 24 = 16777216 := by decide +kernel
      have ps := p2_succ (i := (i : Int)) (by omega)
      have bt : and32 (shr32 x1 i) 1 = ((x1.toNat / 2 ^ i % 2 : Nat) : Int) := by
        rw [bit_eq h1.1 (by omega) (by omega) (by omega), p2_nat]
        conv => lhs; rw [show x1 = ((x1.toNat : Nat) : Int) by omega]
        rfl
      have dv : x1.toNat / 2 ^ i / 2 = x1.toNat / 2 ^ (i + 1) := by rw [Nat.div_div_eq_div_mul, Nat.pow_succ]
      generalize spr 24 x1.toNat j = T at *
      unfold spr at he
      rw [dv] at he
      have e2 : (2 : Nat) ^ (i + 1) = 2 ^ i * 2 := Nat.pow_succ ..
      refine bk_X7_spread_7 (fun g g2 => ?_) (fun g g2 => ?_) (fun g => by omega)
      · rw [bt] at g2
        rw [if_neg (by omega)] at he
        refine ih (i + 1) marks rest (by omega) ⟨hm.1, by rw [show ((i + 1 : Nat) : Int) = (i : Int) + 1 by omega, ps]; omega⟩ hr ?_
        rw [← he, e2, Nat.mul_assoc]
      · rw [bt] at g2
        rw [if_pos (by omega)] at he
        have r1 : and32 (rest : Int) 1 = ((rest % 2 : Nat) : Int) := by
          rw [and1_eq (by omega) (by omega)]
          rfl
        have r2 : shr32 (rest : Int) 1 = ((rest / 2 : Nat) : Int) := by
          rw [shr32_eq (by omega) (by omega) (by decide) (by decide)]
          rfl
        have nb : ¬ bitS marks i := bitS_lt hm.2 hm.1
        have o : or32 marks (shl32 (and32 (rest : Int) 1) i) = marks + ((2 ^ i * (rest % 2) : Nat) : Int) := by
          rw [r1]
          rcases (by omega : rest % 2 = 0 ∨ rest % 2 = 1) with q | q
          · rw [q]
            have z : shl32 ((0 : Nat) : Int) (i : Int) = 0 := by
              have hh : ∀ k : Fin 24, shl32 0 ((k.val : Nat) : Int) = 0 := by decide +kernel
              exact hh ⟨i, by omega⟩
            rw [z, or32_zero ⟨by omega, by omega⟩, Nat.mul_zero]
            omega
          · rw [q]
            show or32 marks (shl32 1 (i : Int)) = _
            rw [or32_bit hm.1 (by omega) (by omega) (by omega) nb, p2_nat, Nat.mul_one]
        rw [o, r2]
        refine ih (i + 1) _ (rest / 2) (by omega) ?_ (by omega) ?_
        · rw [show ((i + 1 : Nat) : Int) = (i : Int) + 1 by omega, ps]
          rw [p2_nat] at pp hm pm ⊢
          rcases (by omega : rest % 2 = 0 ∨ rest % 2 = 1) with q | q
          · rw [q, Nat.mul_zero]
            omega
          · rw [q, Nat.mul_one]
            omega
        · rw [← he, e2, Nat.mul_add, Nat.mul_assoc]
          omega
  refine key 24 0 0 j rfl ⟨by omega, by rw [p2_nat]; decide⟩ hj ?_
  rw [show (2 : Nat) ^ 0 = 1 from rfl, Nat.one_mul, Nat.div_one]
  omega
theorem imin_eq {a : Int} (h : a ≤ 10) : min a 10 = a := by omega
theorem c_X7_fewestMarks (mem : mmM) (x1 x2 x3 c : Int) (h1 : 0 ≤ x1 ∧ x1 ≤ 1000000000) (h2 : 0 ≤ x2 ∧ x2 ≤ 200) (hc : 0 ≤ c ∧ c < 16777216) (hc10 : bcS c ≤ 10) (hp : nightP mem) (hn0 : 0 < mem 23 1) (ho : odOr mem) : con 0 bX7_fewestMarks 7 [(2, 58), (0, x1), (0, x2), (0, x3), (0, c)] mem (fun v m => fewK c (fun s => x1 ≤ (EX mem (or32 x3 s) x2).2.1) (2 ^ popw 24 c.toNat) v ∧ oddQ mem m) := by
  have hn := hp.1.1
  have bc := bcS_popw hc.1 hc.2
  have hk : popw 24 c.toNat ≤ 10 := by omega
  have hK : 2 ^ popw 24 c.toNat ≤ 1024 := Nat.pow_le_pow_right (n := 2) (by decide) hk
  have lim : shl32 1 (bcS c) = ((2 ^ popw 24 c.toNat : Nat) : Int) := by
    rw [bc, shl1_eq (by omega) (by omega), p2_nat]
  have all : min (bcS c) 10 = bcS c := by omega
  refine cn_X7_fewestMarks_a (bk_X7_fewestMarks_a_0 ?_)
  rw [all]
  have out : ∀ (t h : Nat), h + t = popw 24 c.toNat + 1 → ∀ m : mmM, oddQ mem m → (∀ j, j < 2 ^ popw 24 c.toNat → popw 24 j < h → ¬ x1 ≤ (EX mem (or32 x3 (spr 24 c.toNat j : Int)) x2).2.1) → mmT bX7_fewestMarks 7 0 0 (mQ 0 (fun v m => fewK c (fun s => x1 ≤ (EX mem (or32 x3 s) x2).2.1) (2 ^ popw 24 c.toNat) v ∧ oddQ mem m)) 15 [(2, 58), (0, x1), (0, x2), (0, x3), (0, c), (0, bcS c), (0, (h : Int)), (9, 0), (9, 0)] [] mS m := by
    intro t
    induction t with
    | zero =>
      intro h ht m f hno
      refine bk_X7_fewestMarks_a_15 (fun g => by omega) (fun g => ⟨Or.inl ⟨rfl, fun j hj => hno j hj ?_⟩, f⟩) (s2 := by omega)
      have := popw_lt (w := 24) hj
      omega
    | succ t ih =>
      intro h ht m f hno
      refine bk_X7_fewestMarks_a_15 (fun g => ?_) (fun g => by omega) (s2 := by omega)
      have inn : ∀ (u i : Nat), i + u = 2 ^ popw 24 c.toNat → ∀ m : mmM, oddQ mem m → (∀ j, j < i → popw 24 j = h → ¬ x1 ≤ (EX mem (or32 x3 (spr 24 c.toNat j : Int)) x2).2.1) → mmT bX7_fewestMarks 7 0 0 (mQ 0 (fun v m => fewK c (fun s => x1 ≤ (EX mem (or32 x3 s) x2).2.1) (2 ^ popw 24 c.toNat) v ∧ oddQ mem m)) 25 [(2, 58), (0, x1), (0, x2), (0, x3), (0, c), (0, bcS c), (0, (h : Int)), (0, (i : Int)), (9, 0)] [] mS m := by
        intro u
        induction u with
        | zero =>
          intro i hi m f hno2
          refine bk_X7_fewestMarks_a_25 (d1 := 1) (d2 := 6) (P1 := fun _ _ => True) (P2 := fun _ _ => True) (fun g => by rw [lim] at g; omega) (fun g => by rw [lim] at g; omega) (fun g => ?_) (fun g => by rw [lim] at g; omega) (fun g => by rw [lim] at g; omega) (fun g => by rw [lim] at g; omega) (s2 := fun g => by rw [lim] at g; omega) (s3 := fun g => by rw [lim] at g; omega)
          have := ih (h + 1) (by omega) m f (fun j hj hj2 => by
            rcases Nat.lt_or_ge (popw 24 j) h with q | q
            · exact hno j hj q
            · exact hno2 j (by omega) (by omega))
          exact this
        | succ u ihu =>
          intro i hi m f hno2
          have bi : bcS (i : Int) = (popw 24 i : Int) := by
            have := bcS_popw (x := (i : Int)) (by omega) (by omega)
            rw [Int.toNat_natCast] at this
            exact this
          have sl := spr_le 24 c.toNat i
          refine bk_X7_fewestMarks_a_25 (d1 := 1) (d2 := 6) (P1 := fun v m1 => v = (spr 24 c.toNat i : Int) ∧ m1 = m) (P2 := fun v m2 => v = b2i (x1 ≤ (EX mem (or32 x3 (spr 24 c.toNat i : Int)) x2).2.1) ∧ oddQ mem m2) (fun g _ => c_X7_spread m i c hc (by omega)) (fun g g2 v m1 w => ?_) (fun g => by rw [lim] at g; omega) (fun g g2 => ?_) (fun g g2 v m1 w v3 m3 w3 g3 => ?_) (fun g g2 v m1 w v3 m3 w3 g3 => ⟨?_, w3.2⟩) (s2 := fun _ => by omega) (s3 := fun _ _ _ _ _ v3 m3 w3 => by have := b2i_rng (x1 ≤ (EX mem (or32 x3 (spr 24 c.toNat i : Int)) x2).2.1); rw [w3.1]; omega)
          · rw [w.2, w.1]
            have c2 := c_X7_reaches m x1 x2 (or32 x3 (spr 24 c.toNat i : Int)) h1 (f.1.night hp) (by rw [f.1 23 (by omega)]; exact hn0) f.2 h2
            refine con.mono c2 (fun v m' q => ⟨?_, f.1.trans q.2.1, q.2.2⟩)
            have e := f.1.eex (or32 x3 (spr 24 c.toNat i : Int)) x2
            unfold EX at e ⊢
            rw [← e]
            exact q.1
          · rw [bi] at g2
            have := ihu (i + 1) (by omega) m f (fun j hj hj2 => by
              rcases Nat.lt_or_ge j i with q | q
              · exact hno2 j q hj2
              · rw [show j = i by omega] at hj2
                omega)
            exact this
          · have nok : ¬ x1 ≤ (EX mem (or32 x3 (spr 24 c.toNat i : Int)) x2).2.1 := fun z => by
              rw [w3.1, b2i_1 z] at g3
              cases g3
            have := ihu (i + 1) (by omega) m3 w3.2 (fun j hj hj2 => by
              rcases Nat.lt_or_ge j i with q | q
              · exact hno2 j q hj2
              · rw [show j = i by omega]
                exact nok)
            exact this
          · have ok : x1 ≤ (EX mem (or32 x3 (spr 24 c.toNat i : Int)) x2).2.1 := Classical.byContradiction fun z => g3 (by rw [w3.1, b2i_0 z])
            rw [bi] at g2
            refine Or.inr ⟨i, by omega, w.1, ok, fun k hk2 hok => ?_⟩
            rcases Nat.lt_or_ge (popw 24 k) h with q | q
            · exact absurd hok (hno k hk2 q)
            · by_cases e : popw 24 k = h
              · refine Or.inr ⟨by omega, ?_⟩
                rcases Nat.lt_or_ge k i with q2 | q2
                · exact absurd hok (hno2 k q2 e)
                · exact q2
              · exact Or.inl (by omega)
      have := inn (2 ^ popw 24 c.toNat) 0 (by omega) m f (fun j hj => by omega)
      exact this
  have := out (popw 24 c.toNat + 1) 0 (by omega) mem ⟨fun a _ => rfl, ho⟩ (fun j _ hj => by omega)
  exact this
theorem c_X11_fewest (mem : mmM) (x1 x2 x3 : Int) (h1 : R32 x1) (h2 : R32 x2) (h3 : R32 x3) (hc : 0 ≤ mem 47 1 ∧ mem 47 1 < 16777216) (hc10 : bcS (mem 47 1) ≤ 10) (hp : nightP mem) (ho : odOr mem) : con 0 bX11_fewest 8 [(2, 0), (0, x1), (0, x2), (0, x3)] mem (fun v m => oddQ mem m ∧ ((¬ (0 < mem 23 1 ∧ (1 ≤ x2 ∧ x2 ≤ 200) ∧ (0 ≤ x1 ∧ x1 ≤ 1000000000) ∧ 0 ≤ x3 ∧ x3 ≤ 1) ∧ v = -1) ∨ ((0 < mem 23 1 ∧ (1 ≤ x2 ∧ x2 ≤ 200) ∧ (0 ≤ x1 ∧ x1 ≤ 1000000000) ∧ 0 ≤ x3 ∧ x3 ≤ 1) ∧ ∃ r, fewK (mem 47 1) (fun s => x1 ≤ (EX mem (or32 (and32 (mem 47 0) (xor32 (mem 47 1) (-1))) s) x2).2.1) (2 ^ popw 24 (mem 47 1).toNat) r ∧ v = (if r = -1 ∨ x3 = 1 then r else bcS r)))) := by
  have hn := hp.1.1
  have no : oddQ mem mem := ⟨fun a _ => rfl, ho⟩
  refine cn_X11_fewest (bk_X11_fewest_0 (d1 := 7) (P1 := fun v m => fewK (mem 47 1) (fun s => x1 ≤ (EX mem (or32 (and32 (mem 47 0) (xor32 (mem 47 1) (-1))) s) x2).2.1) (2 ^ popw 24 (mem 47 1).toNat) v ∧ oddQ mem m) (fun g g2 g3 g4 g5 g6 => c_X7_fewestMarks mem x1 x2 _ (mem 47 1) ⟨g3, g4⟩ (by omega) hc hc10 hp (by omega) ho) (fun g => ⟨no, Or.inl ⟨by omega, rfl⟩⟩) (fun g g2 => ⟨no, Or.inl ⟨fun z => g2 z.2.1, rfl⟩⟩) (fun g g2 g3 => ⟨no, Or.inl ⟨by omega, rfl⟩⟩) (fun g g2 g3 g4 => ⟨no, Or.inl ⟨by omega, rfl⟩⟩) (fun g g2 g3 g4 g5 => ⟨no, Or.inl ⟨by omega, rfl⟩⟩) (fun g g2 g3 g4 g5 g6 v m q g7 => ⟨q.2, Or.inr ⟨by omega, v, q.1, by rw [if_pos (Or.inl g7)]⟩⟩) (fun g g2 g3 g4 g5 g6 v m q g7 g8 => ⟨q.2, Or.inr ⟨by omega, v, q.1, by rw [if_neg (by omega)]⟩⟩) (fun g g2 g3 g4 g5 g6 v m q g7 g8 => ⟨q.2, Or.inr ⟨by omega, v, q.1, by rw [if_pos (Or.inr g8)]⟩⟩) (fun g g2 g3 g4 g5 g6 => ⟨no, Or.inl ⟨by omega, rfl⟩⟩) (s4 := fun _ _ _ _ _ _ v m q => ?_))
  rcases q.1 with ⟨q1, -⟩ | ⟨j, -, q1, -⟩
  · omega
  · have := spr_le 24 (mem 47 1).toNat j
    omega
theorem c_X12_fewest (mem : mmM) (FM : Int → Int → Int) (x1 x2 x3 : Int) (h1 : R32 x1) (h2 : R32 x2) (h3 : R32 x3) (hc : 0 ≤ mem 65 32 ∧ mem 65 32 < 16777216) (hp : playM mem) (ht : takeM mem) (hF : forgS mem FM) (hm31 : R32 (mem 65 31)) : con 0 bX12_fewest 10 [(2, 65), (0, x1), (0, x2), (0, x3)] mem (fun v m => chFr mem m ∧ ((¬ (0 < mem 65 27 ∧ (1 ≤ x2 ∧ x2 ≤ 200) ∧ (0 ≤ x1 ∧ x1 ≤ 1000000000) ∧ 0 ≤ x3 ∧ x3 ≤ 1) ∧ v = -1) ∨ ((0 < mem 65 27 ∧ (1 ≤ x2 ∧ x2 ≤ 200) ∧ (0 ≤ x1 ∧ x1 ≤ 1000000000) ∧ 0 ≤ x3 ∧ x3 ≤ 1) ∧ ∃ r, fewK (mem 65 32) (fun s => x1 ≤ (EM mem FM (or32 (and32 (mem 65 31) (xor32 (mem 65 32) (-1))) s) (-1) x2).2.1) (2 ^ popw 24 (mem 65 32).toNat) r ∧ v = (if r = -1 ∨ x3 = 1 then r else bcS r)))) := by
  have hn := hp.1
  have no : chFr mem mem := fun a _ _ _ => rfl
  refine cn_X12_fewest (bk_X12_fewest_0 (fun g g2 g3 => ?_) (fun g => ⟨no, Or.inl ⟨by omega, rfl⟩⟩) (fun g g2 => ⟨no, Or.inl ⟨by omega, rfl⟩⟩) (fun g g2 g3 => ⟨no, Or.inl ⟨by omega, rfl⟩⟩))
  have hE : ∀ mk, 0 ≤ (EM mem FM mk (-1) x2).2.1 ∧ (EM mem FM mk (-1) x2).2.1 ≤ 1000000000 := fun mk => EM_ok hp g.1 ht hF _ _ _
  have hpop := popw_le 24 (mem 65 32).toNat
  have hK : 2 ^ popw 24 (mem 65 32).toNat ≤ 2 ^ 24 := Nat.pow_le_pow_right (by decide) hpop
  have e24 : (2 : Nat) ^ 24 = 16777216 := rfl
  have hK0 : 0 < 2 ^ popw 24 (mem 65 32).toNat := Nat.pow_pos (by decide)
  have fin : ∀ (m : mmM) (r s : Int), marksFr mem m → fewK (mem 65 32) (fun s => x1 ≤ (EM mem FM (or32 (and32 (mem 65 31) (xor32 (mem 65 32) (-1))) s) (-1) x2).2.1) (2 ^ popw 24 (mem 65 32).toNat) r → mmT bX12_fewest 10 0 0 (mQ 0 (fun v m => chFr mem m ∧ ((¬ (0 < mem 65 27 ∧ (1 ≤ x2 ∧ x2 ≤ 200) ∧ (0 ≤ x1 ∧ x1 ≤ 1000000000) ∧ 0 ≤ x3 ∧ x3 ≤ 1) ∧ v = -1) ∨ ((0 < mem 65 27 ∧ (1 ≤ x2 ∧ x2 ≤ 200) ∧ (0 ≤ x1 ∧ x1 ≤ 1000000000) ∧ 0 ≤ x3 ∧ x3 ≤ 1) ∧ ∃ r, fewK (mem 65 32) (fun s => x1 ≤ (EM mem FM (or32 (and32 (mem 65 31) (xor32 (mem 65 32) (-1))) s) (-1) x2).2.1) (2 ^ popw 24 (mem 65 32).toNat) r ∧ v = (if r = -1 ∨ x3 = 1 then r else bcS r))))) 45 [(2, 65), (0, x1), (0, x2), (0, x3), (0, mem 65 31), (0, r), (0, s), (0, 0)] [] mS m := by
    intro m r s f hr
    have fr : chFr mem (mset m 65 31 (mem 65 31)) := (f.set _).ch (mset_same _ _ _ _)
    have r32 : R32 r := by
      rcases hr with ⟨q1, -⟩ | ⟨j, -, q1, -⟩
      · omega
      · have := spr_le 24 (mem 65 32).toNat j
        omega
    refine bk_X12_fewest_45 (d1 := 1) (d2 := 1) (P1 := fun _ _ => True) (P2 := fun _ _ => True) (fun g => absurd rfl g) (fun g => absurd rfl g) (fun g => absurd rfl g) (fun g => absurd rfl g) (fun g => absurd rfl g) (fun g => absurd rfl g) (fun g => absurd rfl g) (fun g => absurd rfl g) (fun g => absurd rfl g) (fun g => absurd rfl g) (fun g => absurd rfl g) (fun g => absurd rfl g) (fun _ g2 => ⟨fr, Or.inr ⟨by omega, r, hr, by rw [if_pos (Or.inl g2)]⟩⟩) (fun _ g2 g3 => ⟨fr, Or.inr ⟨by omega, r, hr, by rw [if_neg (by omega)]⟩⟩) (fun _ g2 g3 => ⟨fr, Or.inr ⟨by omega, r, hr, by rw [if_pos (Or.inr g3)]⟩⟩) (s2 := fun _ => hm31) (s3 := fun _ => r32) (s4 := fun _ _ => h3) (s5 := fun _ => r32) (s6 := fun g => absurd rfl g) (s7 := fun g => absurd rfl g) (s8 := fun g => absurd rfl g) (s9 := fun g => absurd rfl g)
  have key : ∀ (t j : Nat), j + t + 1 = 2 ^ popw 24 (mem 65 32).toNat → ∀ (m : mmM) (r : Int), marksFr mem m → fewK (mem 65 32) (fun s => x1 ≤ (EM mem FM (or32 (and32 (mem 65 31) (xor32 (mem 65 32) (-1))) s) (-1) x2).2.1) j r → mmT bX12_fewest 10 0 0 (mQ 0 (fun v m => chFr mem m ∧ ((¬ (0 < mem 65 27 ∧ (1 ≤ x2 ∧ x2 ≤ 200) ∧ (0 ≤ x1 ∧ x1 ≤ 1000000000) ∧ 0 ≤ x3 ∧ x3 ≤ 1) ∧ v = -1) ∨ ((0 < mem 65 27 ∧ (1 ≤ x2 ∧ x2 ≤ 200) ∧ (0 ≤ x1 ∧ x1 ≤ 1000000000) ∧ 0 ≤ x3 ∧ x3 ≤ 1) ∧ ∃ r, fewK (mem 65 32) (fun s => x1 ≤ (EM mem FM (or32 (and32 (mem 65 31) (xor32 (mem 65 32) (-1))) s) (-1) x2).2.1) (2 ^ popw 24 (mem 65 32).toNat) r ∧ v = (if r = -1 ∨ x3 = 1 then r else bcS r))))) 45 [(2, 65), (0, x1), (0, x2), (0, x3), (0, mem 65 31), (0, r), (0, (spr 24 (mem 65 32).toNat j : Int)), (0, 1)] [] mS m := by
    intro t
    induction t using Nat.strongRecOn with
    | _ t ih =>
      intro j hj m r f hr
      have e32 : m 65 32 = mem 65 32 := f.2 32 (by decide)
      have sl := spr_le 24 (mem 65 32).toNat j
      have nxt := next32 hc.1 hc.2 (j := j) (by omega)
      have r32 : R32 r := by
        rcases hr with ⟨q1, -⟩ | ⟨i, -, q1, -⟩
        · omega
        · have := spr_le 24 (mem 65 32).toNat i
          omega
      have bj : bcS (spr 24 (mem 65 32).toNat j : Int) = (popw 24 j : Int) := by
        have := bcS_popw (x := (spr 24 (mem 65 32).toNat j : Int)) (by omega) (by omega)
        rw [Int.toNat_natCast, popw_spr (by omega)] at this
        exact this
      have cc : ∀ m : mmM, marksFr mem m → con 0 bX12_chanceOf 9 [(2, 65), (0, x2), (0, -1)] (mset m 65 31 (or32 (and32 (mem 65 31) (xor32 (m 65 32) (-1))) (spr 24 (mem 65 32).toNat j : Int))) (fun v m' => v = (EM mem FM (or32 (and32 (mem 65 31) (xor32 (mem 65 32) (-1))) (spr 24 (mem 65 32).toNat j : Int)) (-1) x2).2.1 ∧ marksFr mem m') := by
        intro m f
        rw [f.2 32 (by decide)]
        exact con.mono (ch_at mem m FM _ x2 (-1) f hp g.1 ht hF (by omega) (by omega)) (fun v m' w => ⟨w.1, w.2.1.1⟩)
      have cont0 : ∀ (m' : mmM) (r' : Int), marksFr mem m' → fewK (mem 65 32) (fun s => x1 ≤ (EM mem FM (or32 (and32 (mem 65 31) (xor32 (mem 65 32) (-1))) s) (-1) x2).2.1) (j + 1) r' → and32 ((spr 24 (mem 65 32).toNat j : Int) - m' 65 32) (m' 65 32) = 0 → mmT bX12_fewest 10 0 0 (mQ 0 (fun v m => chFr mem m ∧ ((¬ (0 < mem 65 27 ∧ (1 ≤ x2 ∧ x2 ≤ 200) ∧ (0 ≤ x1 ∧ x1 ≤ 1000000000) ∧ 0 ≤ x3 ∧ x3 ≤ 1) ∧ v = -1) ∨ ((0 < mem 65 27 ∧ (1 ≤ x2 ∧ x2 ≤ 200) ∧ (0 ≤ x1 ∧ x1 ≤ 1000000000) ∧ 0 ≤ x3 ∧ x3 ≤ 1) ∧ ∃ r, fewK (mem 65 32) (fun s => x1 ≤ (EM mem FM (or32 (and32 (mem 65 31) (xor32 (mem 65 32) (-1))) s) (-1) x2).2.1) (2 ^ popw 24 (mem 65 32).toNat) r ∧ v = (if r = -1 ∨ x3 = 1 then r else bcS r))))) 45 [(2, 65), (0, x1), (0, x2), (0, x3), (0, mem 65 31), (0, r'), (0, and32 ((spr 24 (mem 65 32).toNat j : Int) - m' 65 32) (m' 65 32)), (0, 0)] [] mS m' := by
        intro m' r' f' hr' z
        rw [f'.2 32 (by decide), nxt] at z
        refine fin m' r' _ f' ?_
        by_cases q : j + 1 < 2 ^ popw 24 (mem 65 32).toNat
        · rw [if_pos q] at z
          have := spr_pos q (by omega)
          omega
        · rw [show 2 ^ popw 24 (mem 65 32).toNat = j + 1 by omega]
          exact hr'
      have cont1 : ∀ (m' : mmM) (r' : Int), marksFr mem m' → fewK (mem 65 32) (fun s => x1 ≤ (EM mem FM (or32 (and32 (mem 65 31) (xor32 (mem 65 32) (-1))) s) (-1) x2).2.1) (j + 1) r' → ¬ and32 ((spr 24 (mem 65 32).toNat j : Int) - m' 65 32) (m' 65 32) = 0 → mmT bX12_fewest 10 0 0 (mQ 0 (fun v m => chFr mem m ∧ ((¬ (0 < mem 65 27 ∧ (1 ≤ x2 ∧ x2 ≤ 200) ∧ (0 ≤ x1 ∧ x1 ≤ 1000000000) ∧ 0 ≤ x3 ∧ x3 ≤ 1) ∧ v = -1) ∨ ((0 < mem 65 27 ∧ (1 ≤ x2 ∧ x2 ≤ 200) ∧ (0 ≤ x1 ∧ x1 ≤ 1000000000) ∧ 0 ≤ x3 ∧ x3 ≤ 1) ∧ ∃ r, fewK (mem 65 32) (fun s => x1 ≤ (EM mem FM (or32 (and32 (mem 65 31) (xor32 (mem 65 32) (-1))) s) (-1) x2).2.1) (2 ^ popw 24 (mem 65 32).toNat) r ∧ v = (if r = -1 ∨ x3 = 1 then r else bcS r))))) 45 [(2, 65), (0, x1), (0, x2), (0, x3), (0, mem 65 31), (0, r'), (0, and32 ((spr 24 (mem 65 32).toNat j : Int) - m' 65 32) (m' 65 32)), (0, 1)] [] mS m' := by
        intro m' r' f' hr' z
        rw [f'.2 32 (by decide), nxt] at z ⊢
        by_cases q : j + 1 < 2 ^ popw 24 (mem 65 32).toNat
        · rw [if_pos q]
          exact ih (t - 1) (by omega) (j + 1) (by omega) m' r' f' hr'
        · rw [if_neg q] at z
          exact absurd rfl z
      have n10 : ¬ (1 : Int) = 0 := by decide
      -- what is known of the best so far
      have hno : r = -1 → ∀ i, i < j → ¬ x1 ≤ (EM mem FM (or32 (and32 (mem 65 31) (xor32 (mem 65 32) (-1))) (spr 24 (mem 65 32).toNat i : Int)) (-1) x2).2.1 := by
        intro e
        rcases hr with ⟨-, q⟩ | ⟨i, -, q1, -⟩
        · exact q
        · omega
      have hso : ¬ r = -1 → ∃ i, i < j ∧ r = (spr 24 (mem 65 32).toNat i : Int) ∧ x1 ≤ (EM mem FM (or32 (and32 (mem 65 31) (xor32 (mem 65 32) (-1))) (spr 24 (mem 65 32).toNat i : Int)) (-1) x2).2.1 ∧ (∀ k, k < j → x1 ≤ (EM mem FM (or32 (and32 (mem 65 31) (xor32 (mem 65 32) (-1))) (spr 24 (mem 65 32).toNat k : Int)) (-1) x2).2.1 → popw 24 i < popw 24 k ∨ (popw 24 i = popw 24 k ∧ i ≤ k)) ∧ bcS r = (popw 24 i : Int) := by
        intro e
        rcases hr with ⟨q, -⟩ | ⟨i, q0, q1, q2, q3⟩
        · exact absurd q e
        · refine ⟨i, q0, q1, q2, q3, ?_⟩
          have si := spr_le 24 (mem 65 32).toNat i
          have := bcS_popw (x := (spr 24 (mem 65 32).toNat i : Int)) (by omega) (by omega)
          rw [Int.toNat_natCast, popw_spr (by omega)] at this
          rw [q1]
          exact this
      have same : ¬ r = -1 → bcS r ≤ bcS (spr 24 (mem 65 32).toNat j : Int) → fewK (mem 65 32) (fun s => x1 ≤ (EM mem FM (or32 (and32 (mem 65 31) (xor32 (mem 65 32) (-1))) s) (-1) x2).2.1) (j + 1) r := by
        intro e z
        obtain ⟨i, i0, i1, i2, i3, i4⟩ := hso e
        rw [i1]
        exact fewK_same i0 i2 i3 (by omega)
      have newb : ¬ r = -1 → bcS (spr 24 (mem 65 32).toNat j : Int) < bcS r → x1 ≤ (EM mem FM (or32 (and32 (mem 65 31) (xor32 (mem 65 32) (-1))) (spr 24 (mem 65 32).toNat j : Int)) (-1) x2).2.1 → fewK (mem 65 32) (fun s => x1 ≤ (EM mem FM (or32 (and32 (mem 65 31) (xor32 (mem 65 32) (-1))) s) (-1) x2).2.1) (j + 1) (spr 24 (mem 65 32).toNat j : Int) := by
        intro e z ok
        obtain ⟨i, i0, i1, i2, i3, i4⟩ := hso e
        exact fewK_new (ok := fun s => x1 ≤ (EM mem FM (or32 (and32 (mem 65 31) (xor32 (mem 65 32) (-1))) s) (-1) x2).2.1) ok (Or.inr ⟨i, i0, i3, by omega⟩)
      refine bk_X12_fewest_45 (d1 := 9) (d2 := 9) (P1 := fun v m' => v = (EM mem FM (or32 (and32 (mem 65 31) (xor32 (mem 65 32) (-1))) (spr 24 (mem 65 32).toNat j : Int)) (-1) x2).2.1 ∧ marksFr mem m') (P2 := fun v m' => v = (EM mem FM (or32 (and32 (mem 65 31) (xor32 (mem 65 32) (-1))) (spr 24 (mem 65 32).toNat j : Int)) (-1) x2).2.1 ∧ marksFr mem m')
        (fun _ g2 => cc m f) (fun _ g2 g3 => cc m f)
        (fun _ g2 v m' w g3 g4 => cont0 m' r w.2 (fewK_no hr (by have := w.1; omega)) g4)
        (fun _ g2 v m' w g3 g4 => cont1 m' r w.2 (fewK_no hr (by have := w.1; omega)) g4)
        (fun _ g2 v m' w g3 g4 => cont0 m' _ w.2 (fewK_new (ok := fun s => x1 ≤ (EM mem FM (or32 (and32 (mem 65 31) (xor32 (mem 65 32) (-1))) s) (-1) x2).2.1) (by have := w.1; omega) (Or.inl (hno g2))) g4)
        (fun _ g2 v m' w g3 g4 => cont1 m' _ w.2 (fewK_new (ok := fun s => x1 ≤ (EM mem FM (or32 (and32 (mem 65 31) (xor32 (mem 65 32) (-1))) s) (-1) x2).2.1) (by have := w.1; omega) (Or.inl (hno g2))) g4)
        (fun _ g2 g3 g4 => cont0 m r f (same g2 g3) g4)
        (fun _ g2 g3 g4 => cont1 m r f (same g2 g3) g4)
        (fun _ g2 g3 v m' w g4 g5 => cont0 m' r w.2 (fewK_no hr (by have := w.1; omega)) g5)
        (fun _ g2 g3 v m' w g4 g5 => cont1 m' r w.2 (fewK_no hr (by have := w.1; omega)) g5)
        (fun _ g2 g3 v m' w g4 g5 => cont0 m' _ w.2 (newb g2 g3 (by have := w.1; omega)) g5)
        (fun _ g2 g3 v m' w g4 g5 => cont1 m' _ w.2 (newb g2 g3 (by have := w.1; omega)) g5)
        (fun g => absurd g n10) (fun g => absurd g n10) (fun g => absurd g n10) (s2 := fun g => absurd g n10) (s3 := fun g => absurd g n10) (s4 := fun g => absurd g n10) (s5 := fun _ => r32) (s6 := fun _ _ v m' w => by have := hE (or32 (and32 (mem 65 31) (xor32 (mem 65 32) (-1))) (spr 24 (mem 65 32).toNat j : Int)); rw [w.1]; omega) (s7 := fun _ _ _ _ _ => by omega) (s8 := fun _ _ _ v m' w => by have := hE (or32 (and32 (mem 65 31) (xor32 (mem 65 32) (-1))) (spr 24 (mem 65 32).toNat j : Int)); rw [w.1]; omega) (s9 := fun _ _ _ _ _ _ => by omega)
  have k0 := key (2 ^ popw 24 (mem 65 32).toNat - 1) 0 (by omega) mem (-1) (marksFr.refl mem) (Or.inl ⟨rfl, fun j hj => by omega⟩)
  rw [spr_0] at k0
  exact k0
