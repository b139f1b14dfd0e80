/-! the cuts of a book's text -/
def cutS (C S : Int → Int) (cnt lo left j : Int) : Int ⊕ (Int × Int × Int) :=
  if (numS C 2 (S j)).1 = -1 then .inl (numS C 2 (S j)).2
  else if (numS C 2 (S j)).1 ≤ lo ∨ cnt ≤ (numS C 2 (S j)).1 then .inl ((numS C 2 (S j)).2 - 1)
  else if ¬ C (S (numS C 2 (S j)).2) = 45 then .inl (S (numS C 2 (S j)).2)
  else if (numS C 2 (S (S (numS C 2 (S j)).2 + 1))).1 = -1 then .inl (numS C 2 (S (S (numS C 2 (S j)).2 + 1))).2
  else if (numS C 2 (S (S (numS C 2 (S j)).2 + 1))).1 < (numS C 2 (S j)).1 ∨ cnt ≤ (numS C 2 (S (S (numS C 2 (S j)).2 + 1))).1 ∨ left - ((numS C 2 (S (S (numS C 2 (S j)).2 + 1))).1 - (numS C 2 (S j)).1 + 1) < 2 then .inl ((numS C 2 (S (S (numS C 2 (S j)).2 + 1))).2 - 1)
  else .inr ((numS C 2 (S (S (numS C 2 (S j)).2 + 1))).2, (numS C 2 (S j)).1, (numS C 2 (S (S (numS C 2 (S j)).2 + 1))).1)
def setK (K : Int → Int) (a b : Int) : Int → Int := fun i => if a ≤ i ∧ i ≤ b then 1 else K i
theorem setK_step (K : Int → Int) {a i : Int} (h : a ≤ i) : updF (setK K a (i - 1)) i 1 = setK K a i := by
  funext j
  unfold updF setK
  by_cases q : j = i
  · rw [if_pos q, if_pos (by omega)]
  · rw [if_neg q]
    by_cases z : a ≤ j ∧ j ≤ i - 1
    · rw [if_pos z, if_pos (by omega)]
    · rw [if_neg z, if_neg (by omega)]
theorem setK_none (K : Int → Int) (a : Int) : setK K a (a - 1) = K := by
  funext j
  unfold setK
  rw [if_neg (by omega)]
theorem cn_X0_readCut {d : Nat} {P : Int → mmM → Prop} {mem : mmM} (h : mmT bX0_readCut d 0 0 (mQ 0 P) 0 [(2, 3), (9, 0), (9, 0), (9, 0)] [] mS mem) : con 0 bX0_readCut d [(2, 3)] mem P := mmC_of [(2, 3), (9, 0), (9, 0), (9, 0)] ok_X0_readCut.2.2.2.2 rfl (Nat.le_of_ble_eq_true rfl) h
theorem bk_X0_readCut_0 {d : Nat} {d1 : Nat} {P1 : Int → mmM → Prop} {d2 : Nat} {P2 : Int → mmM → Prop} {d3 : Nat} {P3 : Int → mmM → Prop} {d4 : Nat} {P4 : Int → mmM → Prop} {d5 : Nat} {P5 : Int → mmM → Prop} {d6 : Nat} {P6 : Int → mmM → Prop} {d7 : Nat} {P7 : Int → mmM → Prop} {d8 : Nat} {P8 : Int → mmM → Prop} {d9 : Nat} {P9 : Int → mmM → Prop} {d10 : Nat} {P10 : Int → mmM → Prop} {P : Int → mmM → Prop} {mem : mmM}
  (c1 : con 0 bX9_sign d1 [(2, 1)] mem P1)
  (c2 : ∀ (v1 : Int), ∀ (m1 : mmM), P1 v1 m1 → con 0 bX9_number d2 [(2, 1), (0, 2)] m1 P2)
  (c3 : ∀ (v1 : Int), ∀ (m1 : mmM), P1 v1 m1 → ∀ (v2 : Int), ∀ (m2 : mmM), P2 v2 m2 → ¬ v2 = (-1) → v2 ≤ (m2 3 7) → con 0 bX9_refuseNumber d3 [(2, 1)] m2 P3)
  (c4 : ∀ (v1 : Int), ∀ (m1 : mmM), P1 v1 m1 → ∀ (v2 : Int), ∀ (m2 : mmM), P2 v2 m2 → ¬ v2 = (-1) → (m2 3 7) < v2 → v2 < (m2 3 5) → con 0 bX9_takes d4 [(2, 1), (0, 45)] m2 P4)
  (c5 : ∀ (v1 : Int), ∀ (m1 : mmM), P1 v1 m1 → ∀ (v2 : Int), ∀ (m2 : mmM), P2 v2 m2 → ¬ v2 = (-1) → (m2 3 7) < v2 → v2 < (m2 3 5) → ∀ (v4 : Int), ∀ (m4 : mmM), P4 v4 m4 → ¬ v4 = 0 → con 0 bX9_sign d5 [(2, 1)] m4 P5)
  (c6 : ∀ (v1 : Int), ∀ (m1 : mmM), P1 v1 m1 → ∀ (v2 : Int), ∀ (m2 : mmM), P2 v2 m2 → ¬ v2 = (-1) → (m2 3 7) < v2 → v2 < (m2 3 5) → ∀ (v4 : Int), ∀ (m4 : mmM), P4 v4 m4 → ¬ v4 = 0 → ∀ (v5 : Int), ∀ (m5 : mmM), P5 v5 m5 → con 0 bX9_number d6 [(2, 1), (0, 2)] m5 P6)
  (c7 : ∀ (v1 : Int), ∀ (m1 : mmM), P1 v1 m1 → ∀ (v2 : Int), ∀ (m2 : mmM), P2 v2 m2 → ¬ v2 = (-1) → (m2 3 7) < v2 → v2 < (m2 3 5) → ∀ (v4 : Int), ∀ (m4 : mmM), P4 v4 m4 → ¬ v4 = 0 → ∀ (v5 : Int), ∀ (m5 : mmM), P5 v5 m5 → ∀ (v6 : Int), ∀ (m6 : mmM), P6 v6 m6 → ¬ v6 = (-1) → v6 < v2 → con 0 bX9_refuseNumber d7 [(2, 1)] (mset m6 3 6 ((m6 3 6) - ((v6 - v2) + 1))) P7)
  (c8 : ∀ (v1 : Int), ∀ (m1 : mmM), P1 v1 m1 → ∀ (v2 : Int), ∀ (m2 : mmM), P2 v2 m2 → ¬ v2 = (-1) → (m2 3 7) < v2 → v2 < (m2 3 5) → ∀ (v4 : Int), ∀ (m4 : mmM), P4 v4 m4 → ¬ v4 = 0 → ∀ (v5 : Int), ∀ (m5 : mmM), P5 v5 m5 → ∀ (v6 : Int), ∀ (m6 : mmM), P6 v6 m6 → ¬ v6 = (-1) → v2 ≤ v6 → (m6 3 5) ≤ v6 → con 0 bX9_refuseNumber d8 [(2, 1)] (mset m6 3 6 ((m6 3 6) - ((v6 - v2) + 1))) P8)
  (c9 : ∀ (v1 : Int), ∀ (m1 : mmM), P1 v1 m1 → ∀ (v2 : Int), ∀ (m2 : mmM), P2 v2 m2 → ¬ v2 = (-1) → (m2 3 7) < v2 → v2 < (m2 3 5) → ∀ (v4 : Int), ∀ (m4 : mmM), P4 v4 m4 → ¬ v4 = 0 → ∀ (v5 : Int), ∀ (m5 : mmM), P5 v5 m5 → ∀ (v6 : Int), ∀ (m6 : mmM), P6 v6 m6 → ¬ v6 = (-1) → v2 ≤ v6 → v6 < (m6 3 5) → ((m6 3 6) - ((v6 - v2) + 1)) < 2 → con 0 bX9_refuseNumber d9 [(2, 1)] (mset m6 3 6 ((m6 3 6) - ((v6 - v2) + 1))) P9)
  (c10 : ∀ (v1 : Int), ∀ (m1 : mmM), P1 v1 m1 → ∀ (v2 : Int), ∀ (m2 : mmM), P2 v2 m2 → ¬ v2 = (-1) → (m2 3 7) < v2 → (m2 3 5) ≤ v2 → con 0 bX9_refuseNumber d10 [(2, 1)] m2 P10)
  (k1 : ∀ (v1 : Int), ∀ (m1 : mmM), P1 v1 m1 → ∀ (v2 : Int), ∀ (m2 : mmM), P2 v2 m2 → ¬ v2 = (-1) → (m2 3 7) < v2 → v2 < (m2 3 5) → ∀ (v4 : Int), ∀ (m4 : mmM), P4 v4 m4 → ¬ v4 = 0 → ∀ (v5 : Int), ∀ (m5 : mmM), P5 v5 m5 → ∀ (v6 : Int), ∀ (m6 : mmM), P6 v6 m6 → ¬ v6 = (-1) → v2 ≤ v6 → v6 < (m6 3 5) → 2 ≤ ((m6 3 6) - ((v6 - v2) + 1)) → mmT bX0_readCut d 0 0 (mQ 0 P) 131 [(2, 3), (9, 0), (0, v6), (0, v2)] [] mS (mset m6 3 6 ((m6 3 6) - ((v6 - v2) + 1))))
  (q1 : ∀ (v1 : Int), ∀ (m1 : mmM), P1 v1 m1 → ∀ (v2 : Int), ∀ (m2 : mmM), P2 v2 m2 → ¬ v2 = (-1) → v2 ≤ (m2 3 7) → ∀ (v3 : Int), ∀ (m3 : mmM), P3 v3 m3 → P v3 m3)
  (q2 : ∀ (v1 : Int), ∀ (m1 : mmM), P1 v1 m1 → ∀ (v2 : Int), ∀ (m2 : mmM), P2 v2 m2 → ¬ v2 = (-1) → (m2 3 7) < v2 → v2 < (m2 3 5) → ∀ (v4 : Int), ∀ (m4 : mmM), P4 v4 m4 → ¬ v4 = 0 → ∀ (v5 : Int), ∀ (m5 : mmM), P5 v5 m5 → ∀ (v6 : Int), ∀ (m6 : mmM), P6 v6 m6 → ¬ v6 = (-1) → v6 < v2 → ∀ (v7 : Int), ∀ (m7 : mmM), P7 v7 m7 → P v7 m7)
  (q3 : ∀ (v1 : Int), ∀ (m1 : mmM), P1 v1 m1 → ∀ (v2 : Int), ∀ (m2 : mmM), P2 v2 m2 → ¬ v2 = (-1) → (m2 3 7) < v2 → v2 < (m2 3 5) → ∀ (v4 : Int), ∀ (m4 : mmM), P4 v4 m4 → ¬ v4 = 0 → ∀ (v5 : Int), ∀ (m5 : mmM), P5 v5 m5 → ∀ (v6 : Int), ∀ (m6 : mmM), P6 v6 m6 → ¬ v6 = (-1) → v2 ≤ v6 → (m6 3 5) ≤ v6 → ∀ (v8 : Int), ∀ (m8 : mmM), P8 v8 m8 → P v8 m8)
  (q4 : ∀ (v1 : Int), ∀ (m1 : mmM), P1 v1 m1 → ∀ (v2 : Int), ∀ (m2 : mmM), P2 v2 m2 → ¬ v2 = (-1) → (m2 3 7) < v2 → v2 < (m2 3 5) → ∀ (v4 : Int), ∀ (m4 : mmM), P4 v4 m4 → ¬ v4 = 0 → ∀ (v5 : Int), ∀ (m5 : mmM), P5 v5 m5 → ∀ (v6 : Int), ∀ (m6 : mmM), P6 v6 m6 → ¬ v6 = (-1) → v2 ≤ v6 → v6 < (m6 3 5) → ((m6 3 6) - ((v6 - v2) + 1)) < 2 → ∀ (v9 : Int), ∀ (m9 : mmM), P9 v9 m9 → P v9 m9)
  (q5 : ∀ (v1 : Int), ∀ (m1 : mmM), P1 v1 m1 → ∀ (v2 : Int), ∀ (m2 : mmM), P2 v2 m2 → ¬ v2 = (-1) → (m2 3 7) < v2 → v2 < (m2 3 5) → ∀ (v4 : Int), ∀ (m4 : mmM), P4 v4 m4 → ¬ v4 = 0 → ∀ (v5 : Int), ∀ (m5 : mmM), P5 v5 m5 → ∀ (v6 : Int), ∀ (m6 : mmM), P6 v6 m6 → v6 = (-1) → P 0 m6)
  (q6 : ∀ (v1 : Int), ∀ (m1 : mmM), P1 v1 m1 → ∀ (v2 : Int), ∀ (m2 : mmM), P2 v2 m2 → ¬ v2 = (-1) → (m2 3 7) < v2 → v2 < (m2 3 5) → ∀ (v4 : Int), ∀ (m4 : mmM), P4 v4 m4 → v4 = 0 → P 0 m4)
  (q7 : ∀ (v1 : Int), ∀ (m1 : mmM), P1 v1 m1 → ∀ (v2 : Int), ∀ (m2 : mmM), P2 v2 m2 → ¬ v2 = (-1) → (m2 3 7) < v2 → (m2 3 5) ≤ v2 → ∀ (v10 : Int), ∀ (m10 : mmM), P10 v10 m10 → P v10 m10)
  (q8 : ∀ (v1 : Int), ∀ (m1 : mmM), P1 v1 m1 → ∀ (v2 : Int), ∀ (m2 : mmM), P2 v2 m2 → v2 = (-1) → P 0 m2)
  (hd_d1 : d1 + 1 ≤ d := by omega)
  (hd_d2 : d2 + 1 ≤ d := by omega)
  (hd_d3 : d3 + 1 ≤ d := by omega)
  (hd_d4 : d4 + 1 ≤ d := by omega)
  (hd_d5 : d5 + 1 ≤ d := by omega)
  (hd_d6 : d6 + 1 ≤ d := by omega)
  (hd_d7 : d7 + 1 ≤ d := by omega)
  (hd_d8 : d8 + 1 ≤ d := by omega)
  (hd_d9 : d9 + 1 ≤ d := by omega)
  (hd_d10 : d10 + 1 ≤ d := by omega)
  (s1 : ∀ (v1 : Int), ∀ (m1 : mmM), P1 v1 m1 → ∀ (v2 : Int), ∀ (m2 : mmM), P2 v2 m2 → R32 v2 := by intros; first | omega | assumption | solve_by_elim)
  (s2 : ∀ (v1 : Int), ∀ (m1 : mmM), P1 v1 m1 → ∀ (v2 : Int), ∀ (m2 : mmM), P2 v2 m2 → ¬ v2 = (-1) → v2 ≤ (m2 3 7) → ∀ (v3 : Int), ∀ (m3 : mmM), P3 v3 m3 → v3 = 0 ∨ v3 = 1 := by intros; first | omega | assumption | solve_by_elim)
  (s3 : ∀ (v1 : Int), ∀ (m1 : mmM), P1 v1 m1 → ∀ (v2 : Int), ∀ (m2 : mmM), P2 v2 m2 → ¬ v2 = (-1) → (m2 3 7) < v2 → v2 < (m2 3 5) → ∀ (v4 : Int), ∀ (m4 : mmM), P4 v4 m4 → R32 v4 := by intros; first | omega | assumption | solve_by_elim)
  (s4 : ∀ (v1 : Int), ∀ (m1 : mmM), P1 v1 m1 → ∀ (v2 : Int), ∀ (m2 : mmM), P2 v2 m2 → ¬ v2 = (-1) → (m2 3 7) < v2 → v2 < (m2 3 5) → ∀ (v4 : Int), ∀ (m4 : mmM), P4 v4 m4 → ¬ v4 = 0 → ∀ (v5 : Int), ∀ (m5 : mmM), P5 v5 m5 → ∀ (v6 : Int), ∀ (m6 : mmM), P6 v6 m6 → R32 v6 := by intros; first | omega | assumption | solve_by_elim)
  (s5 : ∀ (v1 : Int), ∀ (m1 : mmM), P1 v1 m1 → ∀ (v2 : Int), ∀ (m2 : mmM), P2 v2 m2 → ¬ v2 = (-1) → (m2 3 7) < v2 → v2 < (m2 3 5) → ∀ (v4 : Int), ∀ (m4 : mmM), P4 v4 m4 → ¬ v4 = 0 → ∀ (v5 : Int), ∀ (m5 : mmM), P5 v5 m5 → ∀ (v6 : Int), ∀ (m6 : mmM), P6 v6 m6 → ¬ v6 = (-1) → R32 ((m6 3 6) - ((v6 - v2) + 1)) := by intros; first | omega | assumption | solve_by_elim)
  (s6 : ∀ (v1 : Int), ∀ (m1 : mmM), P1 v1 m1 → ∀ (v2 : Int), ∀ (m2 : mmM), P2 v2 m2 → ¬ v2 = (-1) → (m2 3 7) < v2 → v2 < (m2 3 5) → ∀ (v4 : Int), ∀ (m4 : mmM), P4 v4 m4 → ¬ v4 = 0 → ∀ (v5 : Int), ∀ (m5 : mmM), P5 v5 m5 → ∀ (v6 : Int), ∀ (m6 : mmM), P6 v6 m6 → ¬ v6 = (-1) → v6 < v2 → ∀ (v7 : Int), ∀ (m7 : mmM), P7 v7 m7 → v7 = 0 ∨ v7 = 1 := by intros; first | omega | assumption | solve_by_elim)
  (s7 : ∀ (v1 : Int), ∀ (m1 : mmM), P1 v1 m1 → ∀ (v2 : Int), ∀ (m2 : mmM), P2 v2 m2 → ¬ v2 = (-1) → (m2 3 7) < v2 → v2 < (m2 3 5) → ∀ (v4 : Int), ∀ (m4 : mmM), P4 v4 m4 → ¬ v4 = 0 → ∀ (v5 : Int), ∀ (m5 : mmM), P5 v5 m5 → ∀ (v6 : Int), ∀ (m6 : mmM), P6 v6 m6 → ¬ v6 = (-1) → v2 ≤ v6 → (m6 3 5) ≤ v6 → ∀ (v8 : Int), ∀ (m8 : mmM), P8 v8 m8 → v8 = 0 ∨ v8 = 1 := by intros; first | omega | assumption | solve_by_elim)
  (s8 : ∀ (v1 : Int), ∀ (m1 : mmM), P1 v1 m1 → ∀ (v2 : Int), ∀ (m2 : mmM), P2 v2 m2 → ¬ v2 = (-1) → (m2 3 7) < v2 → v2 < (m2 3 5) → ∀ (v4 : Int), ∀ (m4 : mmM), P4 v4 m4 → ¬ v4 = 0 → ∀ (v5 : Int), ∀ (m5 : mmM), P5 v5 m5 → ∀ (v6 : Int), ∀ (m6 : mmM), P6 v6 m6 → ¬ v6 = (-1) → v2 ≤ v6 → v6 < (m6 3 5) → ((m6 3 6) - ((v6 - v2) + 1)) < 2 → ∀ (v9 : Int), ∀ (m9 : mmM), P9 v9 m9 → v9 = 0 ∨ v9 = 1 := by intros; first | omega | assumption | solve_by_elim)
  (s9 : ∀ (v1 : Int), ∀ (m1 : mmM), P1 v1 m1 → ∀ (v2 : Int), ∀ (m2 : mmM), P2 v2 m2 → ¬ v2 = (-1) → (m2 3 7) < v2 → (m2 3 5) ≤ v2 → ∀ (v10 : Int), ∀ (m10 : mmM), P10 v10 m10 → v10 = 0 ∨ v10 = 1 := by intros; first | omega | assumption | solve_by_elim)
  : mmT bX0_readCut d 0 0 (mQ 0 P) 0 [(2, 3), (9, 0), (9, 0), (9, 0)] [] mS mem := by
  refine st_aload_n (i := 0) rfl (t := 0) rfl (by decide) dX0_readCut_0 ?_
  refine so_getA 3 0 fr_X0_25_0 rfl sh_3 fx_3_0 dX0_readCut_1 ?_
  refine st_callV (kc2 := 0) (ks2 := 0) (av := []) 1 9 mr_X0_49 ok_X9_sign c1 rfl sh_1 ⟨_, rfl, rfl, by decide⟩ rfl rfl hd_d1 (Nat.le_refl 0) (Nat.le_refl 0) (Nat.le_of_ble_eq_true rfl) dX0_readCut_4 (mQ.elim fun v1 m1 p1 => ?_)
  refine st_pop (Nat.ne_of_beq_eq_false rfl) dX0_readCut_7 ?_
  refine st_aload_n (i := 0) rfl (t := 0) rfl (by decide) dX0_readCut_8 ?_
  refine so_getA 3 0 fr_X0_25_0 rfl sh_3 fx_3_0 dX0_readCut_9 ?_
  refine st_iconst dX0_readCut_12 ?_
  refine st_callV (kc2 := 0) (ks2 := 0) (av := [(0, 2)]) 1 9 mr_X0_62 ok_X9_number (c2 v1 m1 p1) rfl sh_1 ⟨_, rfl, rfl, by decide⟩ rfl rfl hd_d2 (Nat.le_refl 0) (Nat.le_refl 0) (Nat.le_of_ble_eq_true rfl) dX0_readCut_13 (mQ.elim fun v2 m2 p2 => ?_)
  refine st_istore_n (i := 1) rfl (by decide) (lc' := [(2, 3), (0, v2), (9, 0), (9, 0)]) rfl dX0_readCut_16 ?_
  refine st_iload_n (i := 1) rfl rfl dX0_readCut_17 ?_
  refine st_iconst dX0_readCut_18 ?_
  refine sr_icmp_ne 24 (s1 v1 m1 p1 v2 m2 p2) ⟨by decide, by decide⟩ (by decide) dX0_readCut_19 (fun h1 => ?_) (fun h1 => ?_)
  · have h1 : ¬ v2 = (-1) := by omega
    refine st_iload_n (i := 1) rfl rfl dX0_readCut_24 ?_
    refine st_aload_n (i := 0) rfl (t := 0) rfl (by decide) dX0_readCut_25 ?_
    refine so_getI (v := (m2 3 7)) 3 7 fr_X0_72_0 rfl sh_3 rfl dX0_readCut_26 (fun r1 => ?_)
    refine sr_icmp_le 40 (s1 v1 m1 p1 v2 m2 p2) r1 (by decide) dX0_readCut_29 (fun h2 => ?_) (fun h2 => ?_)
    · have h2 : v2 ≤ (m2 3 7) := by omega
      refine st_aload_n (i := 0) rfl (t := 0) rfl (by decide) dX0_readCut_40 ?_
      refine so_getA 3 0 fr_X0_25_0 rfl sh_3 fx_3_0 dX0_readCut_41 ?_
      refine st_callV (kc2 := 0) (ks2 := 0) (av := []) 1 9 mr_X0_66 ok_X9_refuseNumber (c3 v1 m1 p1 v2 m2 p2 h1 h2) rfl sh_1 ⟨_, rfl, rfl, by decide⟩ rfl rfl hd_d3 (Nat.le_refl 0) (Nat.le_refl 0) (Nat.le_of_ble_eq_true rfl) dX0_readCut_44 (mQ.elim fun v3 m3 p3 => ?_)
      exact st_zreturn rfl (s2 v1 m1 p1 v2 m2 p2 h1 h2 v3 m3 p3) dX0_readCut_47 (mQ.ret (q1 v1 m1 p1 v2 m2 p2 h1 h2 v3 m3 p3))
    · have h2 : (m2 3 7) < v2 := by omega
      refine st_iload_n (i := 1) rfl rfl dX0_readCut_32 ?_
      refine st_aload_n (i := 0) rfl (t := 0) rfl (by decide) dX0_readCut_33 ?_
      refine so_getI (v := (m2 3 5)) 3 5 fr_X0_35_0 rfl sh_3 rfl dX0_readCut_34 (fun r2 => ?_)
      refine sr_icmp_lt 48 (s1 v1 m1 p1 v2 m2 p2) r2 (by decide) dX0_readCut_37 (fun h3 => ?_) (fun h3 => ?_)
      · have h3 : v2 < (m2 3 5) := by omega
        refine st_aload_n (i := 0) rfl (t := 0) rfl (by decide) dX0_readCut_48 ?_
        refine so_getA 3 0 fr_X0_25_0 rfl sh_3 fx_3_0 dX0_readCut_49 ?_
        refine st_bipush rfl dX0_readCut_52 ?_
        refine st_callV (kc2 := 0) (ks2 := 0) (av := [(0, 45)]) 1 9 mr_X0_42 ok_X9_takes (c4 v1 m1 p1 v2 m2 p2 h1 h2 h3) rfl sh_1 ⟨_, rfl, rfl, by decide⟩ rfl rfl hd_d4 (Nat.le_refl 0) (Nat.le_refl 0) (Nat.le_of_ble_eq_true rfl) dX0_readCut_54 (mQ.elim fun v4 m4 p4 => ?_)
        refine sr_if_ne 62 (s3 v1 m1 p1 v2 m2 p2 h1 h2 h3 v4 m4 p4) (by decide) dX0_readCut_57 (fun h4 => ?_) (fun h4 => ?_)
        · have h4 : ¬ v4 = 0 := by omega
          refine st_aload_n (i := 0) rfl (t := 0) rfl (by decide) dX0_readCut_62 ?_
          refine so_getA 3 0 fr_X0_25_0 rfl sh_3 fx_3_0 dX0_readCut_63 ?_
          refine st_callV (kc2 := 0) (ks2 := 0) (av := []) 1 9 mr_X0_49 ok_X9_sign (c5 v1 m1 p1 v2 m2 p2 h1 h2 h3 v4 m4 p4 h4) rfl sh_1 ⟨_, rfl, rfl, by decide⟩ rfl rfl hd_d5 (Nat.le_refl 0) (Nat.le_refl 0) (Nat.le_of_ble_eq_true rfl) dX0_readCut_66 (mQ.elim fun v5 m5 p5 => ?_)
          refine st_pop (Nat.ne_of_beq_eq_false rfl) dX0_readCut_69 ?_
          refine st_aload_n (i := 0) rfl (t := 0) rfl (by decide) dX0_readCut_70 ?_
          refine so_getA 3 0 fr_X0_25_0 rfl sh_3 fx_3_0 dX0_readCut_71 ?_
          refine st_iconst dX0_readCut_74 ?_
          refine st_callV (kc2 := 0) (ks2 := 0) (av := [(0, 2)]) 1 9 mr_X0_62 ok_X9_number (c6 v1 m1 p1 v2 m2 p2 h1 h2 h3 v4 m4 p4 h4 v5 m5 p5) rfl sh_1 ⟨_, rfl, rfl, by decide⟩ rfl rfl hd_d6 (Nat.le_refl 0) (Nat.le_refl 0) (Nat.le_of_ble_eq_true rfl) dX0_readCut_75 (mQ.elim fun v6 m6 p6 => ?_)
          refine st_istore_n (i := 2) rfl (by decide) (lc' := [(2, 3), (0, v2), (0, v6), (9, 0)]) rfl dX0_readCut_78 ?_
          refine st_iload_n (i := 2) rfl rfl dX0_readCut_79 ?_
          refine st_iconst dX0_readCut_80 ?_
          refine sr_icmp_ne 86 (s4 v1 m1 p1 v2 m2 p2 h1 h2 h3 v4 m4 p4 h4 v5 m5 p5 v6 m6 p6) ⟨by decide, by decide⟩ (by decide) dX0_readCut_81 (fun h5 => ?_) (fun h5 => ?_)
          · have h5 : ¬ v6 = (-1) := by omega
            refine st_aload_n (i := 0) rfl (t := 0) rfl (by decide) dX0_readCut_86 ?_
            refine st_dup (Nat.ne_of_beq_eq_false rfl) dX0_readCut_87 ?_
            refine so_getI (v := (m6 3 6)) 3 6 fr_X0_69_0 rfl sh_3 rfl dX0_readCut_88 (fun r3 => ?_)
            refine st_iload_n (i := 2) rfl rfl dX0_readCut_91 ?_
            refine st_iload_n (i := 1) rfl rfl dX0_readCut_92 ?_
            refine st_isub dX0_readCut_93 ?_
            refine st_iconst dX0_readCut_94 ?_
            refine st_iadd dX0_readCut_95 ?_
            refine st_isub dX0_readCut_96 ?_
            refine so_putI 3 6 fr_X0_69_0 pf_0_6 fo_3_6 rfl sh_3 (s5 v1 m1 p1 v2 m2 p2 h1 h2 h3 v4 m4 p4 h4 v5 m5 p5 v6 m6 p6 h5) dX0_readCut_97 ?_
            refine st_iload_n (i := 2) rfl rfl dX0_readCut_100 ?_
            refine st_iload_n (i := 1) rfl rfl dX0_readCut_101 ?_
            refine sr_icmp_lt 121 (s4 v1 m1 p1 v2 m2 p2 h1 h2 h3 v4 m4 p4 h4 v5 m5 p5 v6 m6 p6) (s1 v1 m1 p1 v2 m2 p2) (by decide) dX0_readCut_102 (fun h6 => ?_) (fun h6 => ?_)
            · have h6 : v6 < v2 := by omega
              refine st_aload_n (i := 0) rfl (t := 0) rfl (by decide) dX0_readCut_121 ?_
              refine so_getA 3 0 fr_X0_25_0 rfl sh_3 fx_3_0 dX0_readCut_122 ?_
              refine st_callV (kc2 := 0) (ks2 := 0) (av := []) 1 9 mr_X0_66 ok_X9_refuseNumber (c7 v1 m1 p1 v2 m2 p2 h1 h2 h3 v4 m4 p4 h4 v5 m5 p5 v6 m6 p6 h5 h6) rfl sh_1 ⟨_, rfl, rfl, by decide⟩ rfl rfl hd_d7 (Nat.le_refl 0) (Nat.le_refl 0) (Nat.le_of_ble_eq_true rfl) dX0_readCut_125 (mQ.elim fun v7 m7 p7 => ?_)
              exact st_zreturn rfl (s6 v1 m1 p1 v2 m2 p2 h1 h2 h3 v4 m4 p4 h4 v5 m5 p5 v6 m6 p6 h5 h6 v7 m7 p7) dX0_readCut_128 (mQ.ret (q2 v1 m1 p1 v2 m2 p2 h1 h2 h3 v4 m4 p4 h4 v5 m5 p5 v6 m6 p6 h5 h6 v7 m7 p7))
            · have h6 : v2 ≤ v6 := by omega
              refine st_iload_n (i := 2) rfl rfl dX0_readCut_105 ?_
              refine st_aload_n (i := 0) rfl (t := 0) rfl (by decide) dX0_readCut_106 ?_
              refine so_getI (v := (m6 3 5)) 3 5 fr_X0_35_0 rfl sh_3 rfl dX0_readCut_107 (fun r4 => ?_)
              refine sr_icmp_ge 121 (s4 v1 m1 p1 v2 m2 p2 h1 h2 h3 v4 m4 p4 h4 v5 m5 p5 v6 m6 p6) r4 (by decide) dX0_readCut_110 (fun h7 => ?_) (fun h7 => ?_)
              · have h7 : (m6 3 5) ≤ v6 := by omega
                refine st_aload_n (i := 0) rfl (t := 0) rfl (by decide) dX0_readCut_121 ?_
                refine so_getA 3 0 fr_X0_25_0 rfl sh_3 fx_3_0 dX0_readCut_122 ?_
                refine st_callV (kc2 := 0) (ks2 := 0) (av := []) 1 9 mr_X0_66 ok_X9_refuseNumber (c8 v1 m1 p1 v2 m2 p2 h1 h2 h3 v4 m4 p4 h4 v5 m5 p5 v6 m6 p6 h5 h6 h7) rfl sh_1 ⟨_, rfl, rfl, by decide⟩ rfl rfl hd_d8 (Nat.le_refl 0) (Nat.le_refl 0) (Nat.le_of_ble_eq_true rfl) dX0_readCut_125 (mQ.elim fun v8 m8 p8 => ?_)
                exact st_zreturn rfl (s7 v1 m1 p1 v2 m2 p2 h1 h2 h3 v4 m4 p4 h4 v5 m5 p5 v6 m6 p6 h5 h6 h7 v8 m8 p8) dX0_readCut_128 (mQ.ret (q3 v1 m1 p1 v2 m2 p2 h1 h2 h3 v4 m4 p4 h4 v5 m5 p5 v6 m6 p6 h5 h6 h7 v8 m8 p8))
              · have h7 : v6 < (m6 3 5) := by omega
                refine st_aload_n (i := 0) rfl (t := 0) rfl (by decide) dX0_readCut_113 ?_
                refine so_getI (v := ((m6 3 6) - ((v6 - v2) + 1))) 3 6 fr_X0_69_0 rfl sh_3 rfl dX0_readCut_114 (fun r5 => ?_)
                refine st_iconst dX0_readCut_117 ?_
                refine sr_icmp_ge 129 r5 ⟨by decide, by decide⟩ (by decide) dX0_readCut_118 (fun h8 => ?_) (fun h8 => ?_)
                · have h8 : 2 ≤ ((m6 3 6) - ((v6 - v2) + 1)) := by omega
                  refine st_iload_n (i := 1) rfl rfl dX0_readCut_129 ?_
                  refine st_istore_n (i := 3) rfl (by decide) (lc' := [(2, 3), (0, v2), (0, v6), (0, v2)]) rfl dX0_readCut_130 ?_
                  exact st_locals [(2, 3), (9, 0), (0, v6), (0, v2)] ⟨Or.inr rfl, Or.inl rfl, Or.inr rfl, Or.inr rfl, trivial⟩ (k1 v1 m1 p1 v2 m2 p2 h1 h2 h3 v4 m4 p4 h4 v5 m5 p5 v6 m6 p6 h5 h6 h7 h8)
                · have h8 : ((m6 3 6) - ((v6 - v2) + 1)) < 2 := by omega
                  refine st_aload_n (i := 0) rfl (t := 0) rfl (by decide) dX0_readCut_121 ?_
                  refine so_getA 3 0 fr_X0_25_0 rfl sh_3 fx_3_0 dX0_readCut_122 ?_
                  refine st_callV (kc2 := 0) (ks2 := 0) (av := []) 1 9 mr_X0_66 ok_X9_refuseNumber (c9 v1 m1 p1 v2 m2 p2 h1 h2 h3 v4 m4 p4 h4 v5 m5 p5 v6 m6 p6 h5 h6 h7 h8) rfl sh_1 ⟨_, rfl, rfl, by decide⟩ rfl rfl hd_d9 (Nat.le_refl 0) (Nat.le_refl 0) (Nat.le_of_ble_eq_true rfl) dX0_readCut_125 (mQ.elim fun v9 m9 p9 => ?_)
                  exact st_zreturn rfl (s8 v1 m1 p1 v2 m2 p2 h1 h2 h3 v4 m4 p4 h4 v5 m5 p5 v6 m6 p6 h5 h6 h7 h8 v9 m9 p9) dX0_readCut_128 (mQ.ret (q4 v1 m1 p1 v2 m2 p2 h1 h2 h3 v4 m4 p4 h4 v5 m5 p5 v6 m6 p6 h5 h6 h7 h8 v9 m9 p9))
          · have h5 : v6 = (-1) := by omega
            refine st_iconst dX0_readCut_84 ?_
            exact st_zreturn rfl (by decide) dX0_readCut_85 (mQ.ret (q5 v1 m1 p1 v2 m2 p2 h1 h2 h3 v4 m4 p4 h4 v5 m5 p5 v6 m6 p6 h5))
        · have h4 : v4 = 0 := by omega
          refine st_iconst dX0_readCut_60 ?_
          exact st_zreturn rfl (by decide) dX0_readCut_61 (mQ.ret (q6 v1 m1 p1 v2 m2 p2 h1 h2 h3 v4 m4 p4 h4))
      · have h3 : (m2 3 5) ≤ v2 := by omega
        refine st_aload_n (i := 0) rfl (t := 0) rfl (by decide) dX0_readCut_40 ?_
        refine so_getA 3 0 fr_X0_25_0 rfl sh_3 fx_3_0 dX0_readCut_41 ?_
        refine st_callV (kc2 := 0) (ks2 := 0) (av := []) 1 9 mr_X0_66 ok_X9_refuseNumber (c10 v1 m1 p1 v2 m2 p2 h1 h2 h3) rfl sh_1 ⟨_, rfl, rfl, by decide⟩ rfl rfl hd_d10 (Nat.le_refl 0) (Nat.le_refl 0) (Nat.le_of_ble_eq_true rfl) dX0_readCut_44 (mQ.elim fun v10 m10 p10 => ?_)
        exact st_zreturn rfl (s9 v1 m1 p1 v2 m2 p2 h1 h2 h3 v10 m10 p10) dX0_readCut_47 (mQ.ret (q7 v1 m1 p1 v2 m2 p2 h1 h2 h3 v10 m10 p10))
  · have h1 : v2 = (-1) := by omega
    refine st_iconst dX0_readCut_22 ?_
    exact st_zreturn rfl (by decide) dX0_readCut_23 (mQ.ret (q8 v1 m1 p1 v2 m2 p2 h1))
theorem bk_X0_readCut_131 {d : Nat} {P : Int → mmM → Prop} {mem : mmM} {x2 x3 : Int}
  (k1 : x3 ≤ x2 → x3 < 24 → mmT bX0_readCut d 0 0 (mQ 0 P) 131 [(2, 3), (9, 0), (0, x2), (0, (x3 + 1))] [] mS (mset mem 7 x3 1))
  (q1 : x2 < x3 → P 1 (mset mem 3 7 x2))
  (q2 : x3 ≤ x2 → 24 ≤ x3 → P 1 (mset mem 3 7 x2))
  (s1 : R32 x3 := by intros; first | omega | assumption | solve_by_elim)
  (s2 : R32 x2 := by intros; first | omega | assumption | solve_by_elim)
  (s3 : x3 ≤ x2 → x3 < 24 → 0 ≤ x3 ∧ x3 < 24 := by intros; first | omega | assumption | solve_by_elim)
  : mmT bX0_readCut d 0 0 (mQ 0 P) 131 [(2, 3), (9, 0), (0, x2), (0, x3)] [] mS mem := by
  refine st_iload_n (i := 3) rfl rfl dX0_readCut_131 ?_
  refine st_iload_n (i := 2) rfl rfl dX0_readCut_132 ?_
  refine sr_icmp_gt 155 s1 s2 (by decide) dX0_readCut_133 (fun h1 => ?_) (fun h1 => ?_)
  · have h1 : x2 < x3 := by omega
    refine st_aload_n (i := 0) rfl (t := 0) rfl (by decide) dX0_readCut_155 ?_
    refine st_iload_n (i := 2) rfl rfl dX0_readCut_156 ?_
    refine so_putI 3 7 fr_X0_72_0 pf_0_7 fo_3_7 rfl sh_3 s2 dX0_readCut_157 ?_
    refine st_iconst dX0_readCut_160 ?_
    exact st_zreturn rfl (by decide) dX0_readCut_161 (mQ.ret (q1 h1))
  · have h1 : x3 ≤ x2 := by omega
    refine st_iload_n (i := 3) rfl rfl dX0_readCut_136 ?_
    refine st_bipush rfl dX0_readCut_137 ?_
    refine sr_icmp_ge 155 s1 ⟨by decide, by decide⟩ (by decide) dX0_readCut_139 (fun h2 => ?_) (fun h2 => ?_)
    · have h2 : 24 ≤ x3 := by omega
      refine st_aload_n (i := 0) rfl (t := 0) rfl (by decide) dX0_readCut_155 ?_
      refine st_iload_n (i := 2) rfl rfl dX0_readCut_156 ?_
      refine so_putI 3 7 fr_X0_72_0 pf_0_7 fo_3_7 rfl sh_3 s2 dX0_readCut_157 ?_
      refine st_iconst dX0_readCut_160 ?_
      exact st_zreturn rfl (by decide) dX0_readCut_161 (mQ.ret (q2 h1 h2))
    · have h2 : x3 < 24 := by omega
      refine st_aload_n (i := 0) rfl (t := 0) rfl (by decide) dX0_readCut_142 ?_
      refine so_getA 3 4 fr_X0_21_0 rfl sh_3 fx_3_4 dX0_readCut_143 ?_
      refine st_iload_n (i := 3) rfl rfl dX0_readCut_146 ?_
      refine st_iconst dX0_readCut_147 ?_
      refine so_bast 7 fr_7 rfl sh_7 (by decide) (s3 h1 h2) (by decide) dX0_readCut_148 ?_
      refine st_iinc (y := (x3 + 1)) (by decide) (i := 3) rfl rfl (lc' := [(2, 3), (9, 0), (0, x2), (0, (x3 + 1))]) rfl dX0_readCut_149 ?_
      refine st_goto 131 (by decide) dX0_readCut_152 ?_
      exact st_locals [(2, 3), (9, 0), (0, x2), (0, (x3 + 1))] ⟨Or.inr rfl, Or.inl rfl, Or.inr rfl, Or.inr rfl, trivial⟩ (k1 h1 h2)
def cutX (mem : mmM) : Int ⊕ (Int × Int × Int) → Int → mmM → Prop
  | .inl f, v, m => v = 0 ∧ rdFr mem m ∧ m 1 2 = f
  | .inr (t, a, b), v, m => v = 1 ∧ rdFr mem m ∧ m 1 2 = t ∧ m 3 5 = mem 3 5 ∧ m 3 6 = mem 3 6 - (b - a + 1) ∧ m 3 7 = b ∧ m 7 = setK (mem 7) a b ∧ m 4 = mem 4 ∧ m 5 = mem 5 ∧ m 6 = mem 6
theorem cutS_bnd {mem : mmM} {cnt lo left j t a b : Int} (h1 : j ≤ mem 1 1) (h : cutS (CX mem) (SX mem) cnt lo left j = .inr (t, a, b)) : (j < t ∧ t ≤ mem 1 1) ∧ (lo < a ∧ a ≤ b ∧ b < cnt) ∧ 2 ≤ left - (b - a + 1) := by
  have gp := SX_ge mem j
  have lp := SX_le h1
  have nb := numS_bnd (C := CX mem) (n := mem 1 1) (fun i h => CX_lt h) 2 (SX mem j) lp
  unfold cutS at h
  split at h
  · cases h
  · split at h
    · cases h
    · split at h
      · cases h
      · rename_i z1 z2 z3
        have z3 : CX mem (SX mem (numS (CX mem) 2 (SX mem j)).2) = 45 := by
          by_cases q : CX mem (SX mem (numS (CX mem) 2 (SX mem j)).2) = 45
          · exact q
          · exact absurd q z3
        have gr := SX_ge mem (numS (CX mem) 2 (SX mem j)).2
        have lr := CX_lt (mem := mem) (j := SX mem (numS (CX mem) 2 (SX mem j)).2) (by omega)
        have gs := SX_ge mem (SX mem (numS (CX mem) 2 (SX mem j)).2 + 1)
        have ls := SX_le (mem := mem) (j := SX mem (numS (CX mem) 2 (SX mem j)).2 + 1) (by omega)
        have nb2 := numS_bnd (C := CX mem) (n := mem 1 1) (fun i h => CX_lt h) 2 (SX mem (SX mem (numS (CX mem) 2 (SX mem j)).2 + 1)) ls
        split at h
        · cases h
        · split at h
          · cases h
          · cases h
            omega
theorem c_X0_readCut (mem : mmM) (hb : bytX mem) (h0 : 0 ≤ mem 1 2) (h1 : mem 1 2 ≤ mem 1 1) (hc : 0 ≤ mem 3 5 ∧ mem 3 5 ≤ 24) (hl : -1 ≤ mem 3 7) (h6 : 0 ≤ mem 3 6 ∧ mem 3 6 ≤ 24) : con 0 bX0_readCut 4 [(2, 3)] mem (cutX mem (cutS (CX mem) (SX mem) (mem 3 5) (mem 3 7) (mem 3 6) (mem 1 2))) := by
  have hn := hb.1
  obtain ⟨j, hj⟩ : ∃ j, mem 1 2 = j := ⟨_, rfl⟩
  obtain ⟨p, hp⟩ : ∃ p, SX mem j = p := ⟨_, rfl⟩
  have gp := SX_ge mem j
  have lp := SX_le (mem := mem) (j := j) (by omega)
  rw [hp] at gp lp
  have nb := numS_bnd (C := CX mem) (n := mem 1 1) (fun i h => CX_lt h) 2 p lp
  have nt := num2_top (CX mem) p
  obtain ⟨n1, hn1⟩ : ∃ n1, numS (CX mem) 2 p = n1 := ⟨_, rfl⟩
  rw [hn1] at nb nt
  obtain ⟨r, hr⟩ : ∃ r, SX mem n1.2 = r := ⟨_, rfl⟩
  have gr := SX_ge mem n1.2
  have lr := SX_le (mem := mem) (j := n1.2) (by omega)
  rw [hr] at gr lr
  obtain ⟨s, hs⟩ : ∃ s, SX mem (r + 1) = s := ⟨_, rfl⟩
  have gs := SX_ge mem (r + 1)
  have ls : CX mem r = 45 → s ≤ mem 1 1 := by
    intro z
    have := CX_lt (mem := mem) (j := r) (by omega)
    rw [← hs]
    exact SX_le (by omega)
  rw [hs] at gs
  obtain ⟨n2, hn2⟩ : ∃ n2, numS (CX mem) 2 s = n2 := ⟨_, rfl⟩
  have nb2 : CX mem r = 45 → s ≤ n2.2 ∧ n2.2 ≤ mem 1 1 := by
    intro z
    have := numS_bnd (C := CX mem) (n := mem 1 1) (fun i h => CX_lt h) 2 s (ls z)
    rw [hn2] at this
    exact ⟨this.1, this.2.1⟩
  have nt2 := num2_top (CX mem) s
  rw [hn2] at nt2
  have em : mem = cuX mem j := by rw [← hj, cuX_id]
  have sg := s_sign mem hb (j := j) (by omega)
  rw [← em, hp] at sg
  have eS : cutS (CX mem) (SX mem) (mem 3 5) (mem 3 7) (mem 3 6) j = if n1.1 = -1 then .inl n1.2 else if n1.1 ≤ mem 3 7 ∨ mem 3 5 ≤ n1.1 then .inl (n1.2 - 1) else if ¬ CX mem r = 45 then .inl r else if n2.1 = -1 then .inl n2.2 else if n2.1 < n1.1 ∨ mem 3 5 ≤ n2.1 ∨ mem 3 6 - (n2.1 - n1.1 + 1) < 2 then .inl (n2.2 - 1) else .inr (n2.2, n1.1, n2.1) := by
    unfold cutS
    rw [hp, hn1, hr, hs, hn2]
  obtain ⟨mB, hB⟩ : ∃ mB, mB = mset mem 3 6 (mem 3 6 - (n2.1 - n1.1 + 1)) := ⟨_, rfl⟩
  have b3 : ∀ k, k ≠ 6 → mB 3 k = mem 3 k := fun k hk => by rw [hB, mset_at, if_neg hk]
  have bn : ∀ a, a ≠ 3 → mB a = mem a := fun a ha => by rw [hB, mset_ne ha]
  have hbB : bytX mB := bytX_of (by rw [bn 1 (by decide)]) (bn 2 (by decide)) hb
  have bf : rdFr mem mB := by
    rw [hB]
    exact rdFr_mset mem _ _ (by omega)
  have ref : ∀ k, k ≤ mem 1 1 → 0 ≤ k → con 0 bX9_refuseNumber 0 [(2, 1)] (cuX mem k) (fun v m => v = 0 ∧ m = cuX mem (k - 1)) := fun k k1 k0 => s_refuse mem k0 (by omega)
  have c3 : ∀ (k i : Int), cuX mem k 3 i = mem 3 i := fun k i => by rw [cuX_ne _ _ (by decide)]
  have cB : ∀ k : Int, mset (cuX mem k) 3 6 (mem 3 6 - (n2.1 - n1.1 + 1)) = cuX mB k := fun k => by rw [cuX_comm _ _ _ _ (by decide), ← hB]
  rw [hj, eS]
  have tk : con 0 bX9_takes 3 [(2, 1), (0, 45)] (cuX mem n1.2) (fun v m => (CX mem r = 45 ∧ v = 1 ∧ m = cuX mem (r + 1)) ∨ (¬ CX mem r = 45 ∧ v = 0 ∧ m = cuX mem r)) := by
    have := s_takes mem hb (j := n1.2) (x := 45) (by omega) (by omega) ⟨by decide, by decide⟩
    rw [hr] at this
    exact this
  refine cn_X0_readCut ?_
  refine bk_X0_readCut_0 (d1 := 2) (d2 := 2) (d3 := 0) (d4 := 3) (d5 := 2) (d6 := 2) (d7 := 0) (d8 := 0) (d9 := 0) (d10 := 0)
    (P1 := fun v m => v = CX mem p ∧ m = cuX mem p) (P2 := fun v m => v = n1.1 ∧ m = cuX mem n1.2) (P3 := fun v m => v = 0 ∧ m = cuX mem (n1.2 - 1)) (P4 := fun v m => (CX mem r = 45 ∧ v = 1 ∧ m = cuX mem (r + 1)) ∨ (¬ CX mem r = 45 ∧ v = 0 ∧ m = cuX mem r))
    (P5 := fun v m => CX mem r = 45 ∧ m = cuX mem s) (P6 := fun v m => CX mem r = 45 ∧ v = n2.1 ∧ m = cuX mem n2.2) (P7 := fun v m => CX mem r = 45 ∧ v = 0 ∧ m = cuX mB (n2.2 - 1)) (P8 := fun v m => CX mem r = 45 ∧ v = 0 ∧ m = cuX mB (n2.2 - 1)) (P9 := fun v m => CX mem r = 45 ∧ v = 0 ∧ m = cuX mB (n2.2 - 1)) (P10 := fun v m => v = 0 ∧ m = cuX mem (n1.2 - 1))
    sg ?_ ?_ ?_ ?_ ?_ ?_ ?_ ?_ ?_ ?_ ?_ ?_ ?_ ?_ ?_ ?_ ?_ ?_ (s1 := ?_) (s2 := ?_) (s3 := ?_) (s4 := ?_) (s5 := ?_) (s6 := ?_) (s7 := ?_) (s8 := ?_) (s9 := ?_)
  · rintro v m ⟨rfl, rfl⟩
    have := s_number mem hb (j := p) (k := 2) (by omega) lp ⟨by omega, by omega⟩
    rw [hn1] at this
    exact this
  · rintro v m ⟨rfl, rfl⟩ v2 m2 ⟨rfl, rfl⟩ _ _
    exact ref _ (by omega) (by omega)
  · rintro v m ⟨rfl, rfl⟩ v2 m2 ⟨rfl, rfl⟩ _ _ _
    exact tk
  · rintro v m ⟨rfl, rfl⟩ v2 m2 ⟨rfl, rfl⟩ _ _ _ v4 m4 (⟨z, rfl, rfl⟩ | ⟨z, rfl, rfl⟩) g4
    · have := s_sign mem hb (j := r + 1) (by omega)
      rw [hs] at this
      exact con.mono this (fun v m q => ⟨z, q.2⟩)
    · exact absurd rfl g4
  · rintro v m ⟨rfl, rfl⟩ v2 m2 ⟨rfl, rfl⟩ _ _ _ v4 m4 _ g4 v5 m5 ⟨z, rfl⟩
    have := s_number mem hb (j := s) (k := 2) (by omega) (ls z) ⟨by omega, by omega⟩
    rw [hn2] at this
    exact con.mono this (fun v m q => ⟨z, q.1, q.2⟩)
  · rintro v m ⟨rfl, rfl⟩ v2 m2 ⟨rfl, rfl⟩ _ _ _ v4 m4 _ g4 v5 m5 ⟨z, rfl⟩ v6 m6 ⟨-, rfl, rfl⟩ _ _
    have := nb2 z
    rw [c3, cB]
    exact con.mono (s_refuse mB (j := n2.2) (by omega) (by omega)) (fun v m q => ⟨z, q.1, q.2⟩)
  · rintro v m ⟨rfl, rfl⟩ v2 m2 ⟨rfl, rfl⟩ _ _ _ v4 m4 _ g4 v5 m5 ⟨z, rfl⟩ v6 m6 ⟨-, rfl, rfl⟩ _ _ _
    have := nb2 z
    rw [c3, cB]
    exact con.mono (s_refuse mB (j := n2.2) (by omega) (by omega)) (fun v m q => ⟨z, q.1, q.2⟩)
  · rintro v m ⟨rfl, rfl⟩ v2 m2 ⟨rfl, rfl⟩ _ _ _ v4 m4 _ g4 v5 m5 ⟨z, rfl⟩ v6 m6 ⟨-, rfl, rfl⟩ _ _ _ _
    have := nb2 z
    rw [c3, cB]
    exact con.mono (s_refuse mB (j := n2.2) (by omega) (by omega)) (fun v m q => ⟨z, q.1, q.2⟩)
  · rintro v m ⟨rfl, rfl⟩ v2 m2 ⟨rfl, rfl⟩ _ _ _
    exact ref _ (by omega) (by omega)
  · rintro v m ⟨rfl, rfl⟩ v2 m2 ⟨rfl, rfl⟩ g1 g2 g3 v4 m4 _ g4 v5 m5 ⟨z, rfl⟩ v6 m6 ⟨-, rfl, rfl⟩ g5 g6 g7 g8
    rw [c3] at g2 g3 g7 g8 ⊢
    rw [cB]
    rw [if_neg g1, if_neg (by omega), if_neg (fun y => y z), if_neg g5, if_neg (by omega)]
    have hb24 : n2.1 < 24 := by omega
    refine loop_up (n := n2.1 + 1) (fun i => ∀ m, n1.1 ≤ i → rdFr mem m → m 1 2 = n2.2 → m 3 5 = mem 3 5 → m 3 6 = mem 3 6 - (n2.1 - n1.1 + 1) → m 7 = setK (mem 7) n1.1 (i - 1) → (m 4 = mem 4 ∧ m 5 = mem 5 ∧ m 6 = mem 6) → mmT bX0_readCut 4 0 0 (mQ 0 (cutX mem (.inr (n2.2, n1.1, n2.1)))) 131 [(2, 3), (9, 0), (0, n2.1), (0, i)] [] mS m) (fun i i0 i1 ih m hi q1 q2 q3 q4 q5 q6 => ?_) n1.1 (by omega) (by omega) (cuX mB n2.2) (Int.le_refl _) (rdFr_trans bf (rdFr_cu mB _)) (cuX_at _ _) ?_ ?_ ?_ ⟨?_, ?_, ?_⟩
    · refine bk_X0_readCut_131 (fun g g2 => ?_) (fun g => ?_) (fun g g2 => absurd g2 (by omega)) (s1 := ⟨by omega, by omega⟩) (s2 := ⟨by omega, by omega⟩) (s3 := fun _ _ => by omega)
      · refine ih (by omega) (mset m 7 i 1) (by omega) (rdFr_trans q1 (rdFr_mset m _ _ (by omega))) ?_ ?_ ?_ ?_ ⟨?_, ?_, ?_⟩
        · rw [mset_ne (by decide), q2]
        · rw [mset_ne (by decide), q3]
        · rw [mset_ne (by decide), q4]
        · rw [mset_updF, q5, setK_step _ hi, show i + 1 - 1 = i by omega]
        · rw [mset_ne (by decide), q6.1]
        · rw [mset_ne (by decide), q6.2.1]
        · rw [mset_ne (by decide), q6.2.2]
      · have hi2 : i - 1 = n2.1 := by omega
        rw [hi2] at q5
        refine ⟨rfl, rdFr_trans q1 (rdFr_mset m _ _ (by omega)), ?_, ?_, ?_, mset_same _ _ _ _, ?_, ?_, ?_, ?_⟩
        · rw [mset_ne (by decide), q2]
        · rw [mset_at, if_neg (by decide), q3]
        · rw [mset_at, if_neg (by decide), q4]
        · rw [mset_ne (by decide), q5]
        · rw [mset_ne (by decide), q6.1]
        · rw [mset_ne (by decide), q6.2.1]
        · rw [mset_ne (by decide), q6.2.2]
    · rw [cuX_ne _ _ (by decide), b3 5 (by decide)]
    · rw [cuX_ne _ _ (by decide), hB, mset_same]
    · rw [cuX_ne _ _ (by decide), bn 7 (by decide), setK_none]
    · rw [cuX_ne _ _ (by decide), bn 4 (by decide)]
    · rw [cuX_ne _ _ (by decide), bn 5 (by decide)]
    · rw [cuX_ne _ _ (by decide), bn 6 (by decide)]
  · rintro v m ⟨rfl, rfl⟩ v2 m2 ⟨rfl, rfl⟩ g1 g2 v3 m3 ⟨rfl, rfl⟩
    rw [c3] at g2
    rw [if_neg g1, if_pos (Or.inl g2)]
    exact ⟨rfl, rdFr_cu mem _, cuX_at _ _⟩
  · rintro v m ⟨rfl, rfl⟩ v2 m2 ⟨rfl, rfl⟩ g1 g2 g3 v4 m4 _ g4 v5 m5 ⟨z, rfl⟩ v6 m6 ⟨-, rfl, rfl⟩ g5 g6 v7 m7 ⟨-, rfl, rfl⟩
    rw [c3] at g2 g3
    rw [if_neg g1, if_neg (by omega), if_neg (fun y => y z), if_neg g5, if_pos (by omega)]
    exact ⟨rfl, rdFr_trans bf (rdFr_cu mB _), cuX_at _ _⟩
  · rintro v m ⟨rfl, rfl⟩ v2 m2 ⟨rfl, rfl⟩ g1 g2 g3 v4 m4 _ g4 v5 m5 ⟨z, rfl⟩ v6 m6 ⟨-, rfl, rfl⟩ g5 g6 g7 v7 m7 ⟨-, rfl, rfl⟩
    rw [c3] at g2 g3 g7
    rw [if_neg g1, if_neg (by omega), if_neg (fun y => y z), if_neg g5, if_pos (by omega)]
    exact ⟨rfl, rdFr_trans bf (rdFr_cu mB _), cuX_at _ _⟩
  · rintro v m ⟨rfl, rfl⟩ v2 m2 ⟨rfl, rfl⟩ g1 g2 g3 v4 m4 _ g4 v5 m5 ⟨z, rfl⟩ v6 m6 ⟨-, rfl, rfl⟩ g5 g6 g7 g8 v7 m7 ⟨-, rfl, rfl⟩
    rw [c3] at g2 g3 g7 g8
    rw [if_neg g1, if_neg (by omega), if_neg (fun y => y z), if_neg g5, if_pos (by omega)]
    exact ⟨rfl, rdFr_trans bf (rdFr_cu mB _), cuX_at _ _⟩
  · rintro v m ⟨rfl, rfl⟩ v2 m2 ⟨rfl, rfl⟩ g1 g2 g3 v4 m4 _ g4 v5 m5 ⟨z, rfl⟩ v6 m6 ⟨-, rfl, rfl⟩ g5
    rw [c3] at g2 g3
    rw [if_neg g1, if_neg (by omega), if_neg (fun y => y z), if_pos g5]
    exact ⟨rfl, rdFr_cu mem _, cuX_at _ _⟩
  · rintro v m ⟨rfl, rfl⟩ v2 m2 ⟨rfl, rfl⟩ g1 g2 g3 v4 m4 (⟨z, rfl, rfl⟩ | ⟨z, -, rfl⟩) g4
    · exact absurd g4 (by decide)
    · rw [c3] at g2 g3
      rw [if_neg g1, if_neg (by omega), if_pos z]
      exact ⟨rfl, rdFr_cu mem _, cuX_at _ _⟩
  · rintro v m ⟨rfl, rfl⟩ v2 m2 ⟨rfl, rfl⟩ g1 g2 g3 v3 m3 ⟨rfl, rfl⟩
    rw [c3] at g2 g3
    rw [if_neg g1, if_pos (Or.inr g3)]
    exact ⟨rfl, rdFr_cu mem _, cuX_at _ _⟩
  · rintro v m ⟨rfl, rfl⟩ v2 m2 ⟨rfl, rfl⟩ g1
    rw [if_pos g1]
    exact ⟨rfl, rdFr_cu mem _, cuX_at _ _⟩
  · rintro v m ⟨rfl, rfl⟩ v2 m2 ⟨rfl, rfl⟩
    exact ⟨by omega, by omega⟩
  · rintro v m ⟨rfl, rfl⟩ v2 m2 ⟨rfl, rfl⟩ _ _ v3 m3 ⟨rfl, -⟩
    exact Or.inl rfl
  · rintro v m ⟨rfl, rfl⟩ v2 m2 ⟨rfl, rfl⟩ _ _ _ v4 m4 (⟨z, rfl, -⟩ | ⟨z, rfl, -⟩) <;> exact ⟨by decide, by decide⟩
  · rintro v m ⟨rfl, rfl⟩ v2 m2 ⟨rfl, rfl⟩ _ _ _ v4 m4 _ g4 v5 m5 ⟨z, rfl⟩ v6 m6 ⟨-, rfl, rfl⟩
    exact ⟨by omega, by omega⟩
  · rintro v m ⟨rfl, rfl⟩ v2 m2 ⟨rfl, rfl⟩ _ _ _ v4 m4 _ g4 v5 m5 ⟨z, rfl⟩ v6 m6 ⟨-, rfl, rfl⟩ _
    rw [c3]
    exact ⟨by omega, by omega⟩
  · rintro v m ⟨rfl, rfl⟩ v2 m2 ⟨rfl, rfl⟩ _ _ _ v4 m4 _ g4 v5 m5 ⟨z, rfl⟩ v6 m6 ⟨-, rfl, rfl⟩ _ _ v7 m7 ⟨-, rfl, -⟩
    exact Or.inl rfl
  · rintro v m ⟨rfl, rfl⟩ v2 m2 ⟨rfl, rfl⟩ _ _ _ v4 m4 _ g4 v5 m5 ⟨z, rfl⟩ v6 m6 ⟨-, rfl, rfl⟩ _ _ _ v7 m7 ⟨-, rfl, -⟩
    exact Or.inl rfl
  · rintro v m ⟨rfl, rfl⟩ v2 m2 ⟨rfl, rfl⟩ _ _ _ v4 m4 _ g4 v5 m5 ⟨z, rfl⟩ v6 m6 ⟨-, rfl, rfl⟩ _ _ _ _ v7 m7 ⟨-, rfl, -⟩
    exact Or.inl rfl
  · rintro v m ⟨rfl, rfl⟩ v2 m2 ⟨rfl, rfl⟩ _ _ _ v3 m3 ⟨rfl, -⟩
    exact Or.inl rfl
def cutsS (C S : Int → Int) (cnt : Int) : Nat → Int → Int → Int → (Int → Int) → Int ⊕ (Int × (Int → Int))
  | 0, _, _, j, K => .inr (S j, K)
  | k + 1, lo, left, j, K => match cutS C S cnt lo left j with
    | .inl f => .inl f
    | .inr (t, a, b) => if C (S t) = 44 then cutsS C S cnt k b (left - (b - a + 1)) (S t + 1) (setK K a b) else .inr (S t, setK K a b)
def aftC (C S : Int → Int) (cnt : Int) (k : Nat) (lo left t : Int) (K : Int → Int) : Int ⊕ (Int × (Int → Int)) := if C (S t) = 44 then cutsS C S cnt k lo left (S t + 1) K else .inr (S t, K)
theorem cutsS_l {C S : Int → Int} {cnt : Int} {k : Nat} {lo left j f : Int} {K : Int → Int} (h : cutS C S cnt lo left j = .inl f) : cutsS C S cnt (k + 1) lo left j K = .inl f := by
  unfold cutsS
  rw [h]
theorem cutsS_r {C S : Int → Int} {cnt : Int} {k : Nat} {lo left j t a b : Int} {K : Int → Int} (h : cutS C S cnt lo left j = .inr (t, a, b)) : cutsS C S cnt (k + 1) lo left j K = aftC C S cnt k b (left - (b - a + 1)) t (setK K a b) := by
  unfold cutsS
  rw [h]
  rfl
theorem cn_X0_readCuts {d : Nat} {P : Int → mmM → Prop} {mem : mmM} (h : mmT bX0_readCuts d 0 0 (mQ 0 P) 0 [(2, 3), (9, 0)] [] mS mem) : con 0 bX0_readCuts d [(2, 3)] mem P := mmC_of [(2, 3), (9, 0)] ok_X0_readCuts.2.2.2.2 rfl (Nat.le_of_ble_eq_true rfl) h
theorem bk_X0_readCuts_0 {d : Nat} {P : Int → mmM → Prop} {mem : mmM}
  (k1 : mmT bX0_readCuts d 0 0 (mQ 0 P) 15 [(2, 3), (0, 0)] [] mS (mset (mset mem 3 6 (mem 3 5)) 3 7 (-1)))
  : mmT bX0_readCuts d 0 0 (mQ 0 P) 0 [(2, 3), (9, 0)] [] mS mem := by
  refine st_aload_n (i := 0) rfl (t := 0) rfl (by decide) dX0_readCuts_0 ?_
  refine st_aload_n (i := 0) rfl (t := 0) rfl (by decide) dX0_readCuts_1 ?_
  refine so_getI (v := (mem 3 5)) 3 5 fr_X0_35_0 rfl sh_3 rfl dX0_readCuts_2 (fun r1 => ?_)
  refine so_putI 3 6 fr_X0_69_0 pf_0_6 fo_3_6 rfl sh_3 r1 dX0_readCuts_5 ?_
  refine st_aload_n (i := 0) rfl (t := 0) rfl (by decide) dX0_readCuts_8 ?_
  refine st_iconst dX0_readCuts_9 ?_
  refine so_putI 3 7 fr_X0_72_0 pf_0_7 fo_3_7 rfl sh_3 ⟨by decide, by decide⟩ dX0_readCuts_10 ?_
  refine st_iconst dX0_readCuts_13 ?_
  refine st_istore_n (i := 1) rfl (by decide) (lc' := [(2, 3), (0, 0)]) rfl dX0_readCuts_14 ?_
  exact st_locals [(2, 3), (0, 0)] ⟨Or.inr rfl, Or.inr rfl, trivial⟩ k1
theorem bk_X0_readCuts_15 {d : Nat} {d1 : Nat} {P1 : Int → mmM → Prop} {d2 : Nat} {P2 : Int → mmM → Prop} {d3 : Nat} {P3 : Int → mmM → Prop} {P : Int → mmM → Prop} {mem : mmM} {x1 : Int}
  (c1 : x1 < 24 → x1 ≤ 0 → con 0 bX0_readCut d1 [(2, 3)] mem P1)
  (c2 : x1 < 24 → 0 < x1 → con 0 bX9_takes d2 [(2, 1), (0, 44)] mem P2)
  (c3 : x1 < 24 → 0 < x1 → ∀ (v2 : Int), ∀ (m2 : mmM), P2 v2 m2 → ¬ v2 = 0 → con 0 bX0_readCut d3 [(2, 3)] m2 P3)
  (k1 : x1 < 24 → x1 ≤ 0 → ∀ (v1 : Int), ∀ (m1 : mmM), P1 v1 m1 → ¬ v1 = 0 → mmT bX0_readCuts d 0 0 (mQ 0 P) 15 [(2, 3), (0, (x1 + 1))] [] mS m1)
  (k2 : x1 < 24 → 0 < x1 → ∀ (v2 : Int), ∀ (m2 : mmM), P2 v2 m2 → ¬ v2 = 0 → ∀ (v3 : Int), ∀ (m3 : mmM), P3 v3 m3 → ¬ v3 = 0 → mmT bX0_readCuts d 0 0 (mQ 0 P) 15 [(2, 3), (0, (x1 + 1))] [] mS m3)
  (q1 : 24 ≤ x1 → P 1 mem)
  (q2 : x1 < 24 → x1 ≤ 0 → ∀ (v1 : Int), ∀ (m1 : mmM), P1 v1 m1 → v1 = 0 → P 0 m1)
  (q3 : x1 < 24 → 0 < x1 → ∀ (v2 : Int), ∀ (m2 : mmM), P2 v2 m2 → ¬ v2 = 0 → ∀ (v3 : Int), ∀ (m3 : mmM), P3 v3 m3 → v3 = 0 → P 0 m3)
  (q4 : x1 < 24 → 0 < x1 → ∀ (v2 : Int), ∀ (m2 : mmM), P2 v2 m2 → v2 = 0 → P 1 m2)
  (hd_d1 : d1 + 1 ≤ d := by omega)
  (hd_d2 : d2 + 1 ≤ d := by omega)
  (hd_d3 : d3 + 1 ≤ d := by omega)
  (s1 : R32 x1 := by intros; first | omega | assumption | solve_by_elim)
  (s2 : x1 < 24 → x1 ≤ 0 → ∀ (v1 : Int), ∀ (m1 : mmM), P1 v1 m1 → R32 v1 := by intros; first | omega | assumption | solve_by_elim)
  (s3 : x1 < 24 → 0 < x1 → ∀ (v2 : Int), ∀ (m2 : mmM), P2 v2 m2 → R32 v2 := by intros; first | omega | assumption | solve_by_elim)
  (s4 : x1 < 24 → 0 < x1 → ∀ (v2 : Int), ∀ (m2 : mmM), P2 v2 m2 → ¬ v2 = 0 → ∀ (v3 : Int), ∀ (m3 : mmM), P3 v3 m3 → R32 v3 := by intros; first | omega | assumption | solve_by_elim)
  : mmT bX0_readCuts d 0 0 (mQ 0 P) 15 [(2, 3), (0, x1)] [] mS mem := by
  refine st_iload_n (i := 1) rfl rfl dX0_readCuts_15 ?_
  refine st_bipush rfl dX0_readCuts_16 ?_
  refine sr_icmp_ge 54 s1 ⟨by decide, by decide⟩ (by decide) dX0_readCuts_18 (fun h1 => ?_) (fun h1 => ?_)
  · have h1 : 24 ≤ x1 := by omega
    refine st_iconst dX0_readCuts_54 ?_
    exact st_zreturn rfl (by decide) dX0_readCuts_55 (mQ.ret (q1 h1))
  · have h1 : x1 < 24 := by omega
    refine st_iload_n (i := 1) rfl rfl dX0_readCuts_21 ?_
    refine sr_if_le 39 s1 (by decide) dX0_readCuts_22 (fun h2 => ?_) (fun h2 => ?_)
    · have h2 : x1 ≤ 0 := by omega
      refine st_aload_n (i := 0) rfl (t := 0) rfl (by decide) dX0_readCuts_39 ?_
      refine st_callV (kc2 := 0) (ks2 := 0) (av := []) 3 0 mr_X0_75 ok_X0_readCut (c1 h1 h2) rfl sh_3 ⟨_, rfl, rfl, by decide⟩ rfl rfl hd_d1 (Nat.le_refl 0) (Nat.le_refl 0) (Nat.le_of_ble_eq_true rfl) dX0_readCuts_40 (mQ.elim fun v1 m1 p1 => ?_)
      refine sr_if_ne 48 (s2 h1 h2 v1 m1 p1) (by decide) dX0_readCuts_43 (fun h3 => ?_) (fun h3 => ?_)
      · have h3 : ¬ v1 = 0 := by omega
        refine st_iinc (y := (x1 + 1)) (by decide) (i := 1) rfl rfl (lc' := [(2, 3), (0, (x1 + 1))]) rfl dX0_readCuts_48 ?_
        refine st_goto 15 (by decide) dX0_readCuts_51 ?_
        exact st_locals [(2, 3), (0, (x1 + 1))] ⟨Or.inr rfl, Or.inr rfl, trivial⟩ (k1 h1 h2 v1 m1 p1 h3)
      · have h3 : v1 = 0 := by omega
        refine st_iconst dX0_readCuts_46 ?_
        exact st_zreturn rfl (by decide) dX0_readCuts_47 (mQ.ret (q2 h1 h2 v1 m1 p1 h3))
    · have h2 : 0 < x1 := by omega
      refine st_aload_n (i := 0) rfl (t := 0) rfl (by decide) dX0_readCuts_25 ?_
      refine so_getA 3 0 fr_X0_25_0 rfl sh_3 fx_3_0 dX0_readCuts_26 ?_
      refine st_bipush rfl dX0_readCuts_29 ?_
      refine st_callV (kc2 := 0) (ks2 := 0) (av := [(0, 44)]) 1 9 mr_X0_42 ok_X9_takes (c2 h1 h2) rfl sh_1 ⟨_, rfl, rfl, by decide⟩ rfl rfl hd_d2 (Nat.le_refl 0) (Nat.le_refl 0) (Nat.le_of_ble_eq_true rfl) dX0_readCuts_31 (mQ.elim fun v2 m2 p2 => ?_)
      refine sr_if_ne 39 (s3 h1 h2 v2 m2 p2) (by decide) dX0_readCuts_34 (fun h4 => ?_) (fun h4 => ?_)
      · have h4 : ¬ v2 = 0 := by omega
        refine st_aload_n (i := 0) rfl (t := 0) rfl (by decide) dX0_readCuts_39 ?_
        refine st_callV (kc2 := 0) (ks2 := 0) (av := []) 3 0 mr_X0_75 ok_X0_readCut (c3 h1 h2 v2 m2 p2 h4) rfl sh_3 ⟨_, rfl, rfl, by decide⟩ rfl rfl hd_d3 (Nat.le_refl 0) (Nat.le_refl 0) (Nat.le_of_ble_eq_true rfl) dX0_readCuts_40 (mQ.elim fun v3 m3 p3 => ?_)
        refine sr_if_ne 48 (s4 h1 h2 v2 m2 p2 h4 v3 m3 p3) (by decide) dX0_readCuts_43 (fun h5 => ?_) (fun h5 => ?_)
        · have h5 : ¬ v3 = 0 := by omega
          refine st_iinc (y := (x1 + 1)) (by decide) (i := 1) rfl rfl (lc' := [(2, 3), (0, (x1 + 1))]) rfl dX0_readCuts_48 ?_
          refine st_goto 15 (by decide) dX0_readCuts_51 ?_
          exact st_locals [(2, 3), (0, (x1 + 1))] ⟨Or.inr rfl, Or.inr rfl, trivial⟩ (k2 h1 h2 v2 m2 p2 h4 v3 m3 p3 h5)
        · have h5 : v3 = 0 := by omega
          refine st_iconst dX0_readCuts_46 ?_
          exact st_zreturn rfl (by decide) dX0_readCuts_47 (mQ.ret (q3 h1 h2 v2 m2 p2 h4 v3 m3 p3 h5))
      · have h4 : v2 = 0 := by omega
        refine st_iconst dX0_readCuts_37 ?_
        exact st_zreturn rfl (by decide) dX0_readCuts_38 (mQ.ret (q4 h1 h2 v2 m2 p2 h4))
def cutsX (mem : mmM) : Int ⊕ (Int × (Int → Int)) → Int → mmM → Prop
  | .inl f, v, m => v = 0 ∧ rdFr mem m ∧ m 1 2 = f
  | .inr (u, K), v, m => v = 1 ∧ rdFr mem m ∧ m 1 2 = u ∧ m 3 5 = mem 3 5 ∧ m 7 = K ∧ m 4 = mem 4 ∧ m 5 = mem 5 ∧ m 6 = mem 6
theorem cutX_l {mem m : mmM} {v : Int} {r : Int ⊕ (Int × Int × Int)} (h : cutX mem r v m) (g : v = 0) : ∃ f, r = .inl f ∧ rdFr mem m ∧ m 1 2 = f := by
  cases r with
  | inl f => exact ⟨f, rfl, h.2.1, h.2.2⟩
  | inr x =>
    obtain ⟨t, a, b⟩ := x
    exact absurd (h.1.symm.trans g) (by decide)
theorem cutX_r {mem m : mmM} {v : Int} {r : Int ⊕ (Int × Int × Int)} (h : cutX mem r v m) (g : ¬ v = 0) : ∃ t a b, r = .inr (t, a, b) ∧ rdFr mem m ∧ m 1 2 = t ∧ m 3 5 = mem 3 5 ∧ m 3 6 = mem 3 6 - (b - a + 1) ∧ m 3 7 = b ∧ m 7 = setK (mem 7) a b ∧ m 4 = mem 4 ∧ m 5 = mem 5 ∧ m 6 = mem 6 := by
  cases r with
  | inl f => exact absurd h.1 g
  | inr x =>
    obtain ⟨t, a, b⟩ := x
    exact ⟨t, a, b, rfl, h.2⟩
theorem cutX_01 {mem m : mmM} {v : Int} {r : Int ⊕ (Int × Int × Int)} (h : cutX mem r v m) : R32 v := by
  cases r with
  | inl f =>
    rw [h.1]
    exact ⟨by decide, by decide⟩
  | inr x =>
    obtain ⟨t, a, b⟩ := x
    rw [h.1]
    exact ⟨by decide, by decide⟩
theorem c_X0_readCuts (mem : mmM) (hb : bytX mem) (h0 : 0 ≤ mem 1 2) (h1 : mem 1 2 ≤ mem 1 1) (hc : 0 ≤ mem 3 5 ∧ mem 3 5 ≤ 24) : con 0 bX0_readCuts 5 [(2, 3)] mem (cutsX mem (cutsS (CX mem) (SX mem) (mem 3 5) 24 (-1) (mem 3 5) (mem 1 2) (mem 7))) := by
  have main : ∀ (k : Nat) (R : Int ⊕ (Int × (Int → Int))) (m : mmM) (i : Int), i + (k : Int) = 24 → 0 < i → rdFr mem m → m 3 5 = mem 3 5 → (m 4 = mem 4 ∧ m 5 = mem 5 ∧ m 6 = mem 6) → 0 ≤ m 1 2 → m 1 2 ≤ mem 1 1 → (2 ≤ m 3 6 ∧ m 3 6 ≤ k) → -1 ≤ m 3 7 → R = aftC (CX mem) (SX mem) (mem 3 5) k (m 3 7) (m 3 6) (m 1 2) (m 7) → mmT bX0_readCuts 5 0 0 (mQ 0 (cutsX mem R)) 15 [(2, 3), (0, i)] [] mS m := by
    intro k R
    induction k with
    | zero =>
      intro m i hi i0 fr m5 m4 a0 a1 h6 h7 hR
      omega
    | succ k ih =>
      intro m i hi i0 fr m5 m4 a0 a1 h6 h7 hR
      have hbm := rdFr_B fr hb
      have eC := rdFr_C fr
      have eS := rdFr_S fr
      have e11 := rdFr_1 fr
      have ge := SX_ge mem (m 1 2)
      have le := SX_le (mem := mem) (j := m 1 2) a1
      have tk := s_takes' m hbm (x := 44) a0 (by omega) ⟨by decide, by decide⟩
      rw [eC, eS] at tk
      have no : ¬ CX mem (SX mem (m 1 2)) = 44 → R = .inr (SX mem (m 1 2), m 7) := fun z => by
        rw [hR]
        exact if_neg z
      have yes : CX mem (SX mem (m 1 2)) = 44 → R = cutsS (CX mem) (SX mem) (mem 3 5) (k + 1) (m 3 7) (m 3 6) (SX mem (m 1 2) + 1) (m 7) := fun z => by
        rw [hR]
        exact if_pos z
      have frc : ∀ j, rdFr mem (cuX m j) := fun j => rdFr_trans fr (rdFr_cu m j)
      refine bk_X0_readCuts_15 (d1 := 0) (d2 := 3) (d3 := 4) (P1 := fun _ _ => True) (P2 := fun v m' => (CX mem (SX mem (m 1 2)) = 44 ∧ v = 1 ∧ m' = cuX m (SX mem (m 1 2) + 1)) ∨ (¬ CX mem (SX mem (m 1 2)) = 44 ∧ v = 0 ∧ m' = cuX m (SX mem (m 1 2)))) (P3 := fun v m' => CX mem (SX mem (m 1 2)) = 44 ∧ cutX (cuX m (SX mem (m 1 2) + 1)) (cutS (CX mem) (SX mem) (mem 3 5) (m 3 7) (m 3 6) (SX mem (m 1 2) + 1)) v m') (fun _ g => absurd g (by omega)) (fun g g2 => tk) (fun g g2 v2 m2 w2 g3 => ?_) (fun _ g => absurd g (by omega)) (fun g g2 v2 m2 w2 g3 v3 m3 w3 g4 => ?_) (fun g => absurd g (by omega)) (fun _ g => absurd g (by omega)) (fun g g2 v2 m2 w2 g3 v3 m3 w3 g4 => ?_) (fun g g2 v2 m2 w2 g3 => ?_) (s1 := ⟨by omega, by omega⟩) (s2 := fun _ g => absurd g (by omega)) (s3 := fun g g2 v2 m2 w2 => ?_) (s4 := fun g g2 v2 m2 w2 g3 v3 m3 w3 => ?_)
      · rcases w2 with ⟨z, rfl, rfl⟩ | ⟨z, rfl, rfl⟩
        · have lt := CX_lt (mem := mem) (j := SX mem (m 1 2)) (by omega)
          have c := c_X0_readCut (cuX m (SX mem (m 1 2) + 1)) (bytX_cu hbm _) (by rw [cuX_at]; omega) (by rw [cuX_at, cuX_1]; omega) (by rw [cuX_ne _ _ (by decide), m5]; exact hc) (by rw [cuX_ne _ _ (by decide)]; exact h7) (by rw [cuX_ne _ _ (by decide)]; omega)
          rw [CX_cu, SX_cu, cuX_at, eC, eS, cuX_ne _ _ (show (3 : Nat) ≠ 1 by decide), m5] at c
          exact con.mono c (fun v m' q => ⟨z, q⟩)
        · exact absurd rfl g3
      · obtain ⟨z, w3⟩ := w3
        have R' := yes z
        have lt := CX_lt (mem := mem) (j := SX mem (m 1 2)) (by omega)
        obtain ⟨t, a, b, hs, wf, w12, w35, w36, w37, w7, w4, w5, w6⟩ := cutX_r w3 g4
        rw [cutsS_r hs] at R'
        have sb := cutS_bnd (by omega) hs
        rw [cuX_ne _ _ (by decide)] at w35 w36 w7 w4 w5 w6
        refine ih m3 (i + 1) (by omega) (by omega) (rdFr_trans (frc _) wf) (by rw [w35, m5]) ⟨by rw [w4]; exact m4.1, by rw [w5]; exact m4.2.1, by rw [w6]; exact m4.2.2⟩ (by rw [w12]; omega) (by rw [w12]; omega) (by rw [w36]; omega) (by rw [w37]; omega) ?_
        rw [w37, w36, w12, w7]
        exact R'
      · obtain ⟨z, w3⟩ := w3
        have R' := yes z
        obtain ⟨f, hs, wf, w12⟩ := cutX_l w3 g4
        rw [cutsS_l hs] at R'
        rw [R']
        exact ⟨rfl, rdFr_trans (frc _) wf, w12⟩
      · rcases w2 with ⟨z, rfl, rfl⟩ | ⟨z, -, rfl⟩
        · exact absurd g3 (by decide)
        · rw [no z]
          exact ⟨rfl, frc _, cuX_at _ _, by rw [cuX_ne _ _ (by decide), m5], cuX_ne _ _ (by decide), by rw [cuX_ne _ _ (by decide), m4.1], by rw [cuX_ne _ _ (by decide), m4.2.1], by rw [cuX_ne _ _ (by decide), m4.2.2]⟩
      · rcases w2 with ⟨z, rfl, -⟩ | ⟨z, rfl, -⟩ <;> exact ⟨by decide, by decide⟩
      · exact cutX_01 w3.2
  obtain ⟨m0, hm0⟩ : ∃ m0, m0 = mset (mset mem 3 6 (mem 3 5)) 3 7 (-1) := ⟨_, rfl⟩
  have fr0 : rdFr mem m0 := by
    rw [hm0]
    exact rdFr_trans (rdFr_mset mem _ _ (by omega)) (rdFr_mset _ _ _ (by omega))
  have n0 : ∀ a, a ≠ 3 → m0 a = mem a := fun a ha => by rw [hm0, mset_ne ha, mset_ne ha]
  have e5 : m0 3 5 = mem 3 5 := by rw [hm0, mset_at, if_neg (by decide), mset_at, if_neg (by decide)]
  have e6 : m0 3 6 = mem 3 5 := by rw [hm0, mset_at, if_neg (by decide), mset_same]
  have e7 : m0 3 7 = -1 := by rw [hm0, mset_same]
  have e12 : m0 1 2 = mem 1 2 := by rw [n0 1 (by decide)]
  have c := c_X0_readCut m0 (rdFr_B fr0 hb) (by rw [e12]; exact h0) (by rw [e12, n0 1 (by decide)]; exact h1) (by rw [e5]; exact hc) (by rw [e7]; decide) (by rw [e6]; exact hc)
  rw [rdFr_C fr0, rdFr_S fr0, e5, e6, e7, e12] at c
  refine cn_X0_readCuts (bk_X0_readCuts_0 ?_)
  rw [← hm0]
  refine bk_X0_readCuts_15 (d1 := 4) (d2 := 0) (d3 := 0) (P1 := cutX m0 (cutS (CX mem) (SX mem) (mem 3 5) (-1) (mem 3 5) (mem 1 2))) (P2 := fun _ _ => True) (P3 := fun _ _ => True) (fun _ _ => c) (fun _ g => absurd g (by omega)) (fun _ g => absurd g (by omega)) (fun _ _ v3 m3 w3 g4 => ?_) (fun _ g => absurd g (by omega)) (fun g => absurd g (by omega)) (fun _ _ v3 m3 w3 g4 => ?_) (fun _ g => absurd g (by omega)) (fun _ g => absurd g (by omega)) (s1 := ⟨by omega, by omega⟩) (s2 := fun _ _ v3 m3 w3 => cutX_01 w3) (s3 := fun _ g => absurd g (by omega)) (s4 := fun _ g => absurd g (by omega))
  · obtain ⟨t, a, b, hs, wf, w12, w35, w36, w37, w7, w4, w5, w6⟩ := cutX_r w3 g4
    have sb := cutS_bnd h1 hs
    refine main 23 _ m3 (0 + 1) (by omega) (by omega) (rdFr_trans fr0 wf) (by rw [w35, e5]) ⟨by rw [w4, n0 4 (by decide)], by rw [w5, n0 5 (by decide)], by rw [w6, n0 6 (by decide)]⟩ (by rw [w12]; omega) (by rw [w12]; omega) (by rw [w36, e6]; omega) (by rw [w37]; omega) ?_
    rw [w37, w36, w12, w7, e6, n0 7 (by decide)]
    exact cutsS_r hs
  · obtain ⟨f, hs, wf, w12⟩ := cutX_l w3 g4
    rw [cutsS_l hs]
    exact ⟨rfl, rdFr_trans fr0 wf, w12⟩
/-- a book's text read: the fault, or how many speeches, their rows, and which are cut -/
def bookS (C S : Int → Int) (A W L K : Int → Int) : Int ⊕ (Int × (Int → Int) × (Int → Int) × (Int → Int) × (Int → Int)) :=
  match restS C S 24 0 0 A W L with
  | .inl f => .inl f
  | .inr (c, u, A', W', L') => if c ≤ 1 then .inl u else if C u = 59 then (match cutsS C S c 24 (-1) c (u + 1) K with
      | .inl f => .inl f
      | .inr (v, K') => if C (S v) = 0 then .inr (c, A', W', L', K') else .inl (S v))
    else if C u = 0 then .inr (c, A', W', L', K) else .inl u
def bookX (mem : mmM) : Int ⊕ (Int × (Int → Int) × (Int → Int) × (Int → Int) × (Int → Int)) → Int → mmM → Prop
  | .inl f, v, m => v = f ∧ rdFr mem m
  | .inr (c, A, W, L, K), v, m => v = -1 ∧ rdFr mem m ∧ m 3 5 = c ∧ m 4 = A ∧ m 5 = W ∧ m 6 = L ∧ m 7 = K
theorem cn_X0_read {d : Nat} {P : Int → mmM → Prop} {mem : mmM} (h : mmT bX0_read d 0 0 (mQ 0 P) 0 [(2, 3), (9, 0)] [] mS mem) : con 0 bX0_read d [(2, 3)] mem P := mmC_of [(2, 3), (9, 0)] ok_X0_read.2.2.2.2 rfl (Nat.le_of_ble_eq_true rfl) h
theorem bk_X0_read_0 {d : Nat} {P : Int → mmM → Prop} {mem : mmM}
  (k1 : mmT bX0_read d 0 0 (mQ 0 P) 15 [(2, 3), (0, 0)] [] mS (mset (mset mem 1 2 0) 3 5 0))
  : mmT bX0_read d 0 0 (mQ 0 P) 0 [(2, 3), (9, 0)] [] mS mem := by
  refine st_aload_n (i := 0) rfl (t := 0) rfl (by decide) dX0_read_0 ?_
  refine so_getA 3 0 fr_X0_25_0 rfl sh_3 fx_3_0 dX0_read_1 ?_
  refine st_iconst dX0_read_4 ?_
  refine so_putI 1 2 fr_X0_29_9 pf_9_2 fo_1_2 rfl sh_1 ⟨by decide, by decide⟩ dX0_read_5 ?_
  refine st_aload_n (i := 0) rfl (t := 0) rfl (by decide) dX0_read_8 ?_
  refine st_iconst dX0_read_9 ?_
  refine so_putI 3 5 fr_X0_35_0 pf_0_5 fo_3_5 rfl sh_3 ⟨by decide, by decide⟩ dX0_read_10 ?_
  refine st_iconst dX0_read_13 ?_
  refine st_istore_n (i := 1) rfl (by decide) (lc' := [(2, 3), (0, 0)]) rfl dX0_read_14 ?_
  exact st_locals [(2, 3), (0, 0)] ⟨Or.inr rfl, Or.inr rfl, trivial⟩ k1
theorem bk_X0_read_15 {d : Nat} {d1 : Nat} {P1 : Int → mmM → Prop} {d2 : Nat} {P2 : Int → mmM → Prop} {d3 : Nat} {P3 : Int → mmM → Prop} {d4 : Nat} {P4 : Int → mmM → Prop} {d5 : Nat} {P5 : Int → mmM → Prop} {P : Int → mmM → Prop} {mem : mmM} {x1 : Int}
  (c1 : 24 ≤ x1 → con 0 bX0_readSpeeches d1 [(2, 3)] mem P1)
  (c2 : 24 ≤ x1 → ∀ (v1 : Int), ∀ (m1 : mmM), P1 v1 m1 → ¬ v1 = 0 → con 0 bX9_takes d2 [(2, 1), (0, 59)] m1 P2)
  (c3 : 24 ≤ x1 → ∀ (v1 : Int), ∀ (m1 : mmM), P1 v1 m1 → ¬ v1 = 0 → ∀ (v2 : Int), ∀ (m2 : mmM), P2 v2 m2 → v2 = 0 → con 0 bX9_sign d3 [(2, 1)] m2 P3)
  (c4 : 24 ≤ x1 → ∀ (v1 : Int), ∀ (m1 : mmM), P1 v1 m1 → ¬ v1 = 0 → ∀ (v2 : Int), ∀ (m2 : mmM), P2 v2 m2 → ¬ v2 = 0 → con 0 bX0_readCuts d4 [(2, 3)] m2 P4)
  (c5 : 24 ≤ x1 → ∀ (v1 : Int), ∀ (m1 : mmM), P1 v1 m1 → ¬ v1 = 0 → ∀ (v2 : Int), ∀ (m2 : mmM), P2 v2 m2 → ¬ v2 = 0 → ∀ (v4 : Int), ∀ (m4 : mmM), P4 v4 m4 → ¬ v4 = 0 → con 0 bX9_sign d5 [(2, 1)] m4 P5)
  (k1 : x1 < 24 → mmT bX0_read d 0 0 (mQ 0 P) 15 [(2, 3), (0, (x1 + 1))] [] mS (mset mem 7 x1 0))
  (q1 : 24 ≤ x1 → ∀ (v1 : Int), ∀ (m1 : mmM), P1 v1 m1 → ¬ v1 = 0 → ∀ (v2 : Int), ∀ (m2 : mmM), P2 v2 m2 → v2 = 0 → ∀ (v3 : Int), ∀ (m3 : mmM), P3 v3 m3 → ¬ v3 = 0 → P (m3 1 2) m3)
  (q2 : 24 ≤ x1 → ∀ (v1 : Int), ∀ (m1 : mmM), P1 v1 m1 → ¬ v1 = 0 → ∀ (v2 : Int), ∀ (m2 : mmM), P2 v2 m2 → v2 = 0 → ∀ (v3 : Int), ∀ (m3 : mmM), P3 v3 m3 → v3 = 0 → P (-1) m3)
  (q3 : 24 ≤ x1 → ∀ (v1 : Int), ∀ (m1 : mmM), P1 v1 m1 → ¬ v1 = 0 → ∀ (v2 : Int), ∀ (m2 : mmM), P2 v2 m2 → ¬ v2 = 0 → ∀ (v4 : Int), ∀ (m4 : mmM), P4 v4 m4 → ¬ v4 = 0 → ∀ (v5 : Int), ∀ (m5 : mmM), P5 v5 m5 → ¬ v5 = 0 → P (m5 1 2) m5)
  (q4 : 24 ≤ x1 → ∀ (v1 : Int), ∀ (m1 : mmM), P1 v1 m1 → ¬ v1 = 0 → ∀ (v2 : Int), ∀ (m2 : mmM), P2 v2 m2 → ¬ v2 = 0 → ∀ (v4 : Int), ∀ (m4 : mmM), P4 v4 m4 → ¬ v4 = 0 → ∀ (v5 : Int), ∀ (m5 : mmM), P5 v5 m5 → v5 = 0 → P (-1) m5)
  (q5 : 24 ≤ x1 → ∀ (v1 : Int), ∀ (m1 : mmM), P1 v1 m1 → ¬ v1 = 0 → ∀ (v2 : Int), ∀ (m2 : mmM), P2 v2 m2 → ¬ v2 = 0 → ∀ (v4 : Int), ∀ (m4 : mmM), P4 v4 m4 → v4 = 0 → P (m4 1 2) m4)
  (q6 : 24 ≤ x1 → ∀ (v1 : Int), ∀ (m1 : mmM), P1 v1 m1 → v1 = 0 → P (m1 1 2) m1)
  (hd_d1 : d1 + 1 ≤ d := by omega)
  (hd_d2 : d2 + 1 ≤ d := by omega)
  (hd_d3 : d3 + 1 ≤ d := by omega)
  (hd_d4 : d4 + 1 ≤ d := by omega)
  (hd_d5 : d5 + 1 ≤ d := by omega)
  (s1 : R32 x1 := by intros; first | omega | assumption | solve_by_elim)
  (s2 : 24 ≤ x1 → ∀ (v1 : Int), ∀ (m1 : mmM), P1 v1 m1 → R32 v1 := by intros; first | omega | assumption | solve_by_elim)
  (s3 : 24 ≤ x1 → ∀ (v1 : Int), ∀ (m1 : mmM), P1 v1 m1 → ¬ v1 = 0 → ∀ (v2 : Int), ∀ (m2 : mmM), P2 v2 m2 → R32 v2 := by intros; first | omega | assumption | solve_by_elim)
  (s4 : 24 ≤ x1 → ∀ (v1 : Int), ∀ (m1 : mmM), P1 v1 m1 → ¬ v1 = 0 → ∀ (v2 : Int), ∀ (m2 : mmM), P2 v2 m2 → v2 = 0 → ∀ (v3 : Int), ∀ (m3 : mmM), P3 v3 m3 → R32 v3 := by intros; first | omega | assumption | solve_by_elim)
  (s5 : 24 ≤ x1 → ∀ (v1 : Int), ∀ (m1 : mmM), P1 v1 m1 → ¬ v1 = 0 → ∀ (v2 : Int), ∀ (m2 : mmM), P2 v2 m2 → ¬ v2 = 0 → ∀ (v4 : Int), ∀ (m4 : mmM), P4 v4 m4 → R32 v4 := by intros; first | omega | assumption | solve_by_elim)
  (s6 : 24 ≤ x1 → ∀ (v1 : Int), ∀ (m1 : mmM), P1 v1 m1 → ¬ v1 = 0 → ∀ (v2 : Int), ∀ (m2 : mmM), P2 v2 m2 → ¬ v2 = 0 → ∀ (v4 : Int), ∀ (m4 : mmM), P4 v4 m4 → ¬ v4 = 0 → ∀ (v5 : Int), ∀ (m5 : mmM), P5 v5 m5 → R32 v5 := by intros; first | omega | assumption | solve_by_elim)
  (s7 : x1 < 24 → 0 ≤ x1 ∧ x1 < 24 := by intros; first | omega | assumption | solve_by_elim)
  : mmT bX0_read d 0 0 (mQ 0 P) 15 [(2, 3), (0, x1)] [] mS mem := by
  refine st_iload_n (i := 1) rfl rfl dX0_read_15 ?_
  refine st_aload_n (i := 0) rfl (t := 0) rfl (by decide) dX0_read_16 ?_
  refine so_getA 3 4 fr_X0_21_0 rfl sh_3 fx_3_4 dX0_read_17 ?_
  refine so_alen (v := 24) 7 rfl sh_7 (by decide) rfl dX0_read_20 ?_
  refine sr_icmp_ge 37 s1 ⟨by decide, by decide⟩ (by decide) dX0_read_21 (fun h1 => ?_) (fun h1 => ?_)
  · have h1 : 24 ≤ x1 := by omega
    refine st_aload_n (i := 0) rfl (t := 0) rfl (by decide) dX0_read_37 ?_
    refine st_callV (kc2 := 0) (ks2 := 0) (av := []) 3 0 mr_X0_38 ok_X0_readSpeeches (c1 h1) rfl sh_3 ⟨_, rfl, rfl, by decide⟩ rfl rfl hd_d1 (Nat.le_refl 0) (Nat.le_refl 0) (Nat.le_of_ble_eq_true rfl) dX0_read_38 (mQ.elim fun v1 m1 p1 => ?_)
    refine sr_if_ne 52 (s2 h1 v1 m1 p1) (by decide) dX0_read_41 (fun h2 => ?_) (fun h2 => ?_)
    · have h2 : ¬ v1 = 0 := by omega
      refine st_aload_n (i := 0) rfl (t := 0) rfl (by decide) dX0_read_52 ?_
      refine so_getA 3 0 fr_X0_25_0 rfl sh_3 fx_3_0 dX0_read_53 ?_
      refine st_bipush rfl dX0_read_56 ?_
      refine st_callV (kc2 := 0) (ks2 := 0) (av := [(0, 59)]) 1 9 mr_X0_42 ok_X9_takes (c2 h1 v1 m1 p1 h2) rfl sh_1 ⟨_, rfl, rfl, by decide⟩ rfl rfl hd_d2 (Nat.le_refl 0) (Nat.le_refl 0) (Nat.le_of_ble_eq_true rfl) dX0_read_58 (mQ.elim fun v2 m2 p2 => ?_)
      refine sr_if_eq 79 (s3 h1 v1 m1 p1 h2 v2 m2 p2) (by decide) dX0_read_61 (fun h3 => ?_) (fun h3 => ?_)
      · have h3 : v2 = 0 := by omega
        refine st_aload_n (i := 0) rfl (t := 0) rfl (by decide) dX0_read_79 ?_
        refine so_getA 3 0 fr_X0_25_0 rfl sh_3 fx_3_0 dX0_read_80 ?_
        refine st_callV (kc2 := 0) (ks2 := 0) (av := []) 1 9 mr_X0_49 ok_X9_sign (c3 h1 v1 m1 p1 h2 v2 m2 p2 h3) rfl sh_1 ⟨_, rfl, rfl, by decide⟩ rfl rfl hd_d3 (Nat.le_refl 0) (Nat.le_refl 0) (Nat.le_of_ble_eq_true rfl) dX0_read_83 (mQ.elim fun v3 m3 p3 => ?_)
        refine sr_if_ne 93 (s4 h1 v1 m1 p1 h2 v2 m2 p2 h3 v3 m3 p3) (by decide) dX0_read_86 (fun h4 => ?_) (fun h4 => ?_)
        · have h4 : ¬ v3 = 0 := by omega
          refine st_aload_n (i := 0) rfl (t := 0) rfl (by decide) dX0_read_93 ?_
          refine so_getA 3 0 fr_X0_25_0 rfl sh_3 fx_3_0 dX0_read_94 ?_
          refine so_getI (v := (m3 1 2)) 1 2 fr_X0_29_9 rfl sh_1 rfl dX0_read_97 (fun r1 => ?_)
          exact st_ireturn rfl dX0_read_100 (mQ.ret (q1 h1 v1 m1 p1 h2 v2 m2 p2 h3 v3 m3 p3 h4))
        · have h4 : v3 = 0 := by omega
          refine st_iconst dX0_read_89 ?_
          refine st_goto 100 (by decide) dX0_read_90 ?_
          exact st_ireturn rfl dX0_read_100 (mQ.ret (q2 h1 v1 m1 p1 h2 v2 m2 p2 h3 v3 m3 p3 h4))
      · have h3 : ¬ v2 = 0 := by omega
        refine st_aload_n (i := 0) rfl (t := 0) rfl (by decide) dX0_read_64 ?_
        refine st_callV (kc2 := 0) (ks2 := 0) (av := []) 3 0 mr_X0_46 ok_X0_readCuts (c4 h1 v1 m1 p1 h2 v2 m2 p2 h3) rfl sh_3 ⟨_, rfl, rfl, by decide⟩ rfl rfl hd_d4 (Nat.le_refl 0) (Nat.le_refl 0) (Nat.le_of_ble_eq_true rfl) dX0_read_65 (mQ.elim fun v4 m4 p4 => ?_)
        refine sr_if_ne 79 (s5 h1 v1 m1 p1 h2 v2 m2 p2 h3 v4 m4 p4) (by decide) dX0_read_68 (fun h5 => ?_) (fun h5 => ?_)
        · have h5 : ¬ v4 = 0 := by omega
          refine st_aload_n (i := 0) rfl (t := 0) rfl (by decide) dX0_read_79 ?_
          refine so_getA 3 0 fr_X0_25_0 rfl sh_3 fx_3_0 dX0_read_80 ?_
          refine st_callV (kc2 := 0) (ks2 := 0) (av := []) 1 9 mr_X0_49 ok_X9_sign (c5 h1 v1 m1 p1 h2 v2 m2 p2 h3 v4 m4 p4 h5) rfl sh_1 ⟨_, rfl, rfl, by decide⟩ rfl rfl hd_d5 (Nat.le_refl 0) (Nat.le_refl 0) (Nat.le_of_ble_eq_true rfl) dX0_read_83 (mQ.elim fun v5 m5 p5 => ?_)
          refine sr_if_ne 93 (s6 h1 v1 m1 p1 h2 v2 m2 p2 h3 v4 m4 p4 h5 v5 m5 p5) (by decide) dX0_read_86 (fun h6 => ?_) (fun h6 => ?_)
          · have h6 : ¬ v5 = 0 := by omega
            refine st_aload_n (i := 0) rfl (t := 0) rfl (by decide) dX0_read_93 ?_
            refine so_getA 3 0 fr_X0_25_0 rfl sh_3 fx_3_0 dX0_read_94 ?_
            refine so_getI (v := (m5 1 2)) 1 2 fr_X0_29_9 rfl sh_1 rfl dX0_read_97 (fun r2 => ?_)
            exact st_ireturn rfl dX0_read_100 (mQ.ret (q3 h1 v1 m1 p1 h2 v2 m2 p2 h3 v4 m4 p4 h5 v5 m5 p5 h6))
          · have h6 : v5 = 0 := by omega
            refine st_iconst dX0_read_89 ?_
            refine st_goto 100 (by decide) dX0_read_90 ?_
            exact st_ireturn rfl dX0_read_100 (mQ.ret (q4 h1 v1 m1 p1 h2 v2 m2 p2 h3 v4 m4 p4 h5 v5 m5 p5 h6))
        · have h5 : v4 = 0 := by omega
          refine st_aload_n (i := 0) rfl (t := 0) rfl (by decide) dX0_read_71 ?_
          refine so_getA 3 0 fr_X0_25_0 rfl sh_3 fx_3_0 dX0_read_72 ?_
          refine so_getI (v := (m4 1 2)) 1 2 fr_X0_29_9 rfl sh_1 rfl dX0_read_75 (fun r3 => ?_)
          exact st_ireturn rfl dX0_read_78 (mQ.ret (q5 h1 v1 m1 p1 h2 v2 m2 p2 h3 v4 m4 p4 h5))
    · have h2 : v1 = 0 := by omega
      refine st_aload_n (i := 0) rfl (t := 0) rfl (by decide) dX0_read_44 ?_
      refine so_getA 3 0 fr_X0_25_0 rfl sh_3 fx_3_0 dX0_read_45 ?_
      refine so_getI (v := (m1 1 2)) 1 2 fr_X0_29_9 rfl sh_1 rfl dX0_read_48 (fun r4 => ?_)
      exact st_ireturn rfl dX0_read_51 (mQ.ret (q6 h1 v1 m1 p1 h2))
  · have h1 : x1 < 24 := by omega
    refine st_aload_n (i := 0) rfl (t := 0) rfl (by decide) dX0_read_24 ?_
    refine so_getA 3 4 fr_X0_21_0 rfl sh_3 fx_3_4 dX0_read_25 ?_
    refine st_iload_n (i := 1) rfl rfl dX0_read_28 ?_
    refine st_iconst dX0_read_29 ?_
    refine so_bast 7 fr_7 rfl sh_7 (by decide) (s7 h1) (by decide) dX0_read_30 ?_
    refine st_iinc (y := (x1 + 1)) (by decide) (i := 1) rfl rfl (lc' := [(2, 3), (0, (x1 + 1))]) rfl dX0_read_31 ?_
    refine st_goto 15 (by decide) dX0_read_34 ?_
    exact st_locals [(2, 3), (0, (x1 + 1))] ⟨Or.inr rfl, Or.inr rfl, trivial⟩ (k1 h1)
def cut0 (mem : mmM) : Int → Int := fun j => if 0 ≤ j ∧ j < 24 then 0 else mem 7 j
theorem restS_cnt {mem : mmM} (hb : bytX mem) : ∀ (k : Nat) (i j : Int) (A W L : Int → Int) {c u : Int} {A' W' L' : Int → Int}, 0 ≤ j → j ≤ mem 1 1 → restS (CX mem) (SX mem) k i j A W L = .inr (c, u, A', W', L') → (i ≤ c ∧ c ≤ i + k) ∧ (0 ≤ u ∧ u ≤ mem 1 1) ∧ SX mem u = u := by
  intro k
  induction k with
  | zero =>
    intro i j A W L c u A' W' L' j0 j1 h
    have gj := SX_ge mem j
    have lj := SX_le j1
    unfold restS at h
    cases h
    exact ⟨⟨by omega, by omega⟩, ⟨by omega, by omega⟩, skT_sk _ _ _⟩
  | succ k ih =>
    intro i j A W L c u A' W' L' j0 j1 h
    cases hs : spS (CX mem) (SX mem) j with
    | inl f =>
      rw [restS_l hs] at h
      cases h
    | inr x =>
      obtain ⟨t, a, w, l⟩ := x
      have sb := spS_bnd hb j0 j1 hs
      rw [restS_r hs] at h
      have gt := SX_ge mem t
      have lt := SX_le (mem := mem) (j := t) (by omega)
      unfold aftS at h
      split at h
      · rename_i z
        have l2 := CX_lt (mem := mem) (j := SX mem t) (by omega)
        have := ih _ _ _ _ _ (by omega) (by omega) h
        exact ⟨by omega, this.2⟩
      · cases h
        exact ⟨⟨by omega, by omega⟩, ⟨by omega, by omega⟩, skT_sk _ _ _⟩
theorem cutsS_pos {mem : mmM} {cnt : Int} : ∀ (k : Nat) (lo left j : Int) (K : Int → Int) {u : Int} {K' : Int → Int}, 0 ≤ j → j ≤ mem 1 1 → cutsS (CX mem) (SX mem) cnt k lo left j K = .inr (u, K') → 0 ≤ u ∧ u ≤ mem 1 1 := by
  intro k
  induction k with
  | zero =>
    intro lo left j K u K' j0 j1 h
    have gj := SX_ge mem j
    have lj := SX_le j1
    unfold cutsS at h
    cases h
    omega
  | succ k ih =>
    intro lo left j K u K' j0 j1 h
    cases hs : cutS (CX mem) (SX mem) cnt lo left j with
    | inl f =>
      rw [cutsS_l hs] at h
      cases h
    | inr x =>
      obtain ⟨t, a, b⟩ := x
      have sb := cutS_bnd j1 hs
      rw [cutsS_r hs] at h
      have gt := SX_ge mem t
      have lt := SX_le (mem := mem) (j := t) (by omega)
      unfold aftC at h
      split at h
      · rename_i z
        have l2 := CX_lt (mem := mem) (j := SX mem t) (by omega)
        exact ih _ _ _ _ (by omega) (by omega) h
      · cases h
        omega
theorem sayX_01 {mem m : mmM} {v : Int} {R : Int ⊕ (Int × Int × (Int → Int) × (Int → Int) × (Int → Int))} (h : sayX mem R v m) : R32 v := by
  cases R with
  | inl f =>
    rw [h.1]
    exact ⟨by decide, by decide⟩
  | inr x =>
    obtain ⟨c, u, A, W, L⟩ := x
    obtain ⟨-, -, -, -, h⟩ := h
    rcases h with ⟨-, rfl, -⟩ | ⟨-, rfl, -⟩ <;> exact ⟨by decide, by decide⟩
theorem cutsX_01 {mem m : mmM} {v : Int} {R : Int ⊕ (Int × (Int → Int))} (h : cutsX mem R v m) : R32 v := by
  cases R with
  | inl f =>
    rw [h.1]
    exact ⟨by decide, by decide⟩
  | inr x =>
    obtain ⟨u, K⟩ := x
    rw [h.1]
    exact ⟨by decide, by decide⟩
theorem sayX_no {mem m : mmM} {v : Int} {R : Int ⊕ (Int × Int × (Int → Int) × (Int → Int) × (Int → Int))} (h : sayX mem R v m) (g : v = 0) : (∃ f, R = .inl f ∧ m 1 2 = f ∧ rdFr mem m) ∨ (∃ c u A W L, R = .inr (c, u, A, W, L) ∧ c ≤ 1 ∧ m 1 2 = u ∧ rdFr mem m) := by
  cases R with
  | inl f => exact Or.inl ⟨f, rfl, h.2.1, h.2.2⟩
  | inr x =>
    obtain ⟨c, u, A, W, L⟩ := x
    obtain ⟨fr, -, -, -, h⟩ := h
    rcases h with ⟨h1, -, h2⟩ | ⟨-, h2, -⟩
    · exact Or.inr ⟨c, u, A, W, L, rfl, h1, h2, fr⟩
    · omega
theorem sayX_yes {mem m : mmM} {v : Int} {R : Int ⊕ (Int × Int × (Int → Int) × (Int → Int) × (Int → Int))} (h : sayX mem R v m) (g : ¬ v = 0) : ∃ c u A W L, R = .inr (c, u, A, W, L) ∧ 1 < c ∧ rdFr mem m ∧ m 7 = mem 7 ∧ m 3 5 = c ∧ (m 4 = A ∧ m 5 = W ∧ m 6 = L) ∧ SX mem (m 1 2) = u ∧ 0 ≤ m 1 2 ∧ m 1 2 ≤ mem 1 1 := by
  cases R with
  | inl f => exact absurd h.1 g
  | inr x =>
    obtain ⟨c, u, A, W, L⟩ := x
    obtain ⟨fr, h7, h5, h4, h⟩ := h
    rcases h with ⟨h1, h2, -⟩ | ⟨h1, h2, h3⟩
    · exact absurd h2 g
    · exact ⟨c, u, A, W, L, rfl, h1, fr, h7, h5, h4, h3⟩
theorem cutsX_yes {mem m : mmM} {v : Int} {R : Int ⊕ (Int × (Int → Int))} (h : cutsX mem R v m) (g : ¬ v = 0) : ∃ u K, R = .inr (u, K) ∧ rdFr mem m ∧ m 1 2 = u ∧ m 3 5 = mem 3 5 ∧ m 7 = K ∧ m 4 = mem 4 ∧ m 5 = mem 5 ∧ m 6 = mem 6 := by
  cases R with
  | inl f => exact absurd h.1 g
  | inr x =>
    obtain ⟨u, K⟩ := x
    exact ⟨u, K, rfl, h.2⟩
theorem cutsX_no {mem m : mmM} {v : Int} {R : Int ⊕ (Int × (Int → Int))} (h : cutsX mem R v m) (g : v = 0) : ∃ f, R = .inl f ∧ rdFr mem m ∧ m 1 2 = f := by
  cases R with
  | inl f => exact ⟨f, rfl, h.2⟩
  | inr x =>
    obtain ⟨u, K⟩ := x
    exact absurd (h.1.symm.trans g) (by decide)
theorem X0_cleared {P : Int → mmM → Prop} (M0 mZ : mmM) (hZ : mZ = mrow M0 7 (fun j => if 0 ≤ j ∧ j < 24 then 0 else M0 7 j)) (tail : mmT bX0_read 6 0 0 (mQ 0 P) 15 [(2, 3), (0, 24)] [] mS mZ) : mmT bX0_read 6 0 0 (mQ 0 P) 15 [(2, 3), (0, 0)] [] mS M0 := by
  have key : ∀ (k : Nat) (i : Int) (m : mmM), k = (24 - i).toNat → 0 ≤ i → i ≤ 24 → m = mrow M0 7 (fun j => if 0 ≤ j ∧ j < i then 0 else M0 7 j) → mmT bX0_read 6 0 0 (mQ 0 P) 15 [(2, 3), (0, i)] [] mS m := by
    intro k
    induction k with
    | zero =>
      intro i m hk h0 h1 hm
      have e : i = 24 := by omega
      subst e
      rw [hm, ← hZ]
      exact tail
    | succ k ih =>
      intro i m hk h0 h1 hm
      refine bk_X0_read_15 (d1 := 1) (d2 := 1) (d3 := 1) (d4 := 1) (d5 := 1) (P1 := fun _ _ => True) (P2 := fun _ _ => True) (P3 := fun _ _ => True) (P4 := fun _ _ => True) (P5 := fun _ _ => True)
        (fun g => absurd g (by omega)) (fun g => absurd g (by omega)) (fun g => absurd g (by omega)) (fun g => absurd g (by omega)) (fun g => absurd g (by omega)) (fun g => ih (i + 1) _ (by omega) (by omega) (by omega) ?_)
        (fun g => absurd g (by omega)) (fun g => absurd g (by omega)) (fun g => absurd g (by omega)) (fun g => absurd g (by omega)) (fun g => absurd g (by omega)) (fun g => absurd g (by omega))
        (s2 := fun g => absurd g (by omega)) (s3 := fun g => absurd g (by omega)) (s4 := fun g => absurd g (by omega)) (s5 := fun g => absurd g (by omega)) (s6 := fun g => absurd g (by omega))
      subst hm
      funext a j
      simp only [mset, mrow]
      by_cases ha : a = 7
      · subst ha
        by_cases hj : j = i
        · subst hj
          rw [if_pos ⟨rfl, rfl⟩, if_pos rfl, if_pos (by omega)]
        · rw [if_neg (by omega), if_pos rfl, if_pos rfl]
          by_cases q : 0 ≤ j ∧ j < i
          · rw [if_pos q, if_pos (by omega)]
          · rw [if_neg q, if_neg (by omega)]
      · rw [if_neg (by omega), if_neg ha, if_neg ha]
  refine key _ 0 M0 rfl (by omega) (by omega) ?_
  funext a j
  simp only [mrow]
  by_cases ha : a = 7
  · subst ha
    rw [if_pos rfl, if_neg (by omega)]
  · rw [if_neg ha]
theorem c_X0_read (mem : mmM) (hb : bytX mem) : con 0 bX0_read 6 [(2, 3)] mem (bookX mem (bookS (CX mem) (SX mem) (mem 4) (mem 5) (mem 6) (cut0 mem))) := by
  obtain ⟨mZ, hZ⟩ : ∃ mZ, mZ = mrow (mset (mset mem 1 2 0) 3 5 0) 7 (fun j => if 0 ≤ j ∧ j < 24 then 0 else (mset (mset mem 1 2 0) 3 5 0) 7 j) := ⟨_, rfl⟩
  have z12 : mZ 1 2 = 0 := by rw [hZ, mrow_ne (by decide), mset_ne (by decide), mset_same]
  have z35 : mZ 3 5 = 0 := by rw [hZ, mrow_ne (by decide), mset_same]
  have zn : ∀ a, a ≠ 1 → a ≠ 3 → a ≠ 7 → mZ a = mem a := fun a h1 h3 h7 => by rw [hZ, mrow_ne h7, mset_ne h3, mset_ne h1]
  have z7 : mZ 7 = cut0 mem := by
    rw [hZ, mrow_same]
    funext j
    rw [mset_ne (by decide), mset_ne (by decide)]
    rfl
  have frZ : rdFr mem mZ := ⟨fun a a1 a3 _ _ _ a7 => zn a a1 a3 a7, fun j hj => by rw [hZ, mrow_ne (by decide), mset_ne (by decide), mset_at, if_neg hj]⟩
  have hbZ := rdFr_B frZ hb
  have hn := hb.1
  have cs := c_X0_readSpeeches mZ hbZ z12 z35
  rw [rdFr_C frZ, rdFr_S frZ, zn 4 (by decide) (by decide) (by decide), zn 5 (by decide) (by decide) (by decide), zn 6 (by decide) (by decide) (by decide)] at cs
  obtain ⟨R, hR⟩ : ∃ R, restS (CX mem) (SX mem) 24 0 0 (mem 4) (mem 5) (mem 6) = R := ⟨_, rfl⟩
  rw [hR] at cs
  have hcnt : ∀ {c u A W L}, R = .inr (c, u, A, W, L) → (0 ≤ c ∧ c ≤ 24) ∧ (0 ≤ u ∧ u ≤ mem 1 1) ∧ SX mem u = u := by
    intro c u A W L e
    rw [e] at hR
    have := restS_cnt hb 24 0 0 _ _ _ (by decide) (by omega) hR
    exact ⟨⟨this.1.1, by omega⟩, this.2⟩
  unfold bookS
  rw [hR]
  refine cn_X0_read (bk_X0_read_0 (X0_cleared _ mZ hZ (bk_X0_read_15 (d1 := 5) (d2 := 3) (d3 := 2) (d4 := 5) (d5 := 2) (P1 := sayX mZ R)
    (P2 := fun v m => ∃ c u A W L, R = .inr (c, u, A, W, L) ∧ 1 < c ∧ rdFr mem m ∧ m 7 = cut0 mem ∧ m 3 5 = c ∧ (m 4 = A ∧ m 5 = W ∧ m 6 = L) ∧ ((CX mem u = 59 ∧ v = 1 ∧ m 1 2 = u + 1) ∨ (¬ CX mem u = 59 ∧ v = 0 ∧ m 1 2 = u)))
    (P3 := fun v m => ∃ c u A W L, R = .inr (c, u, A, W, L) ∧ 1 < c ∧ rdFr mem m ∧ m 7 = cut0 mem ∧ m 3 5 = c ∧ (m 4 = A ∧ m 5 = W ∧ m 6 = L) ∧ ¬ CX mem u = 59 ∧ v = CX mem u ∧ m 1 2 = u)
    (P4 := fun v m => ∃ c u A W L m', R = .inr (c, u, A, W, L) ∧ 1 < c ∧ CX mem u = 59 ∧ rdFr mem m' ∧ m' 3 5 = c ∧ (m' 4 = A ∧ m' 5 = W ∧ m' 6 = L) ∧ cutsX m' (cutsS (CX mem) (SX mem) c 24 (-1) c (u + 1) (cut0 mem)) v m)
    (P5 := fun v m => ∃ c u A W L t K, R = .inr (c, u, A, W, L) ∧ 1 < c ∧ CX mem u = 59 ∧ cutsS (CX mem) (SX mem) c 24 (-1) c (u + 1) (cut0 mem) = .inr (t, K) ∧ rdFr mem m ∧ m 3 5 = c ∧ (m 4 = A ∧ m 5 = W ∧ m 6 = L) ∧ m 7 = K ∧ v = CX mem (SX mem t) ∧ m 1 2 = SX mem t)
    (fun _ => cs) (fun _ v1 m2 w1 g => ?_) (fun _ v1 m2 w1 g v2 m3 w2 g2 => ?_) (fun _ v1 m2 w1 g v2 m3 w2 g2 => ?_) (fun _ v1 m2 w1 g v2 m3 w2 g2 v4 m5 w4 g4 => ?_) (fun g => absurd g (by decide)) (fun _ v1 m2 w1 g v2 m3 w2 g2 v3 m4 w3 g3 => ?_) (fun _ v1 m2 w1 g v2 m3 w2 g2 v3 m4 w3 g3 => ?_) (fun _ v1 m2 w1 g v2 m3 w2 g2 v4 m5 w4 g4 v5 m6 w5 g5 => ?_) (fun _ v1 m2 w1 g v2 m3 w2 g2 v4 m5 w4 g4 v5 m6 w5 g5 => ?_) (fun _ v1 m2 w1 g v2 m3 w2 g2 v4 m5 w4 g4 => ?_) (fun _ v1 m2 w1 g => ?_) (s2 := fun _ v1 m2 w1 => sayX_01 w1) (s3 := fun _ v1 m2 w1 g v2 m3 w2 => ?_) (s4 := fun _ v1 m2 w1 g v2 m3 w2 g2 v3 m4 w3 => ?_) (s5 := fun _ v1 m2 w1 g v2 m3 w2 g2 v4 m5 w4 => ?_) (s6 := fun _ v1 m2 w1 g v2 m3 w2 g2 v4 m5 w4 g4 v5 m6 w5 => ?_))))
  · obtain ⟨c, u, A, W, L, e, c1, fr, e7, e5, e4, eu, a0, a1⟩ := sayX_yes w1 g
    have fr2 := rdFr_trans frZ fr
    have tk := s_takes' m2 (rdFr_B fr2 hb) (x := 59) a0 (by rw [rdFr_1 fr]; exact a1) ⟨by decide, by decide⟩
    rw [rdFr_S frZ] at eu
    rw [rdFr_C fr2, rdFr_S fr2, eu] at tk
    refine con.mono tk (fun v m q => ⟨c, u, A, W, L, e, c1, ?_⟩)
    rcases q with ⟨q1, q2, rfl⟩ | ⟨q1, q2, rfl⟩
    · exact ⟨rdFr_trans fr2 (rdFr_cu _ _), by rw [cuX_ne _ _ (by decide), e7, z7], by rw [cuX_ne _ _ (by decide), e5], ⟨by rw [cuX_ne _ _ (by decide), e4.1], by rw [cuX_ne _ _ (by decide), e4.2.1], by rw [cuX_ne _ _ (by decide), e4.2.2]⟩, Or.inl ⟨q1, q2, cuX_at _ _⟩⟩
    · exact ⟨rdFr_trans fr2 (rdFr_cu _ _), by rw [cuX_ne _ _ (by decide), e7, z7], by rw [cuX_ne _ _ (by decide), e5], ⟨by rw [cuX_ne _ _ (by decide), e4.1], by rw [cuX_ne _ _ (by decide), e4.2.1], by rw [cuX_ne _ _ (by decide), e4.2.2]⟩, Or.inr ⟨q1, q2, cuX_at _ _⟩⟩
  · obtain ⟨c, u, A, W, L, e, c1, fr, e7, e5, e4, h⟩ := w2
    have hc := hcnt e
    rcases h with ⟨-, h, -⟩ | ⟨q1, -, q3⟩
    · omega
    · have sg := c_X9_sign m3 (rdFr_B fr hb) (by omega)
      rw [rdFr_C fr, rdFr_S fr, q3, hc.2.2] at sg
      refine con.mono sg (fun v m q => ⟨c, u, A, W, L, e, c1, ?_⟩)
      rw [q.2]
      exact ⟨rdFr_trans fr (rdFr_cu _ _), by rw [cuX_ne _ _ (by decide), e7], by rw [cuX_ne _ _ (by decide), e5], ⟨by rw [cuX_ne _ _ (by decide), e4.1], by rw [cuX_ne _ _ (by decide), e4.2.1], by rw [cuX_ne _ _ (by decide), e4.2.2]⟩, q1, q.1, cuX_at _ _⟩
  · obtain ⟨c, u, A, W, L, e, c1, fr, e7, e5, e4, h⟩ := w2
    have hc := hcnt e
    rcases h with ⟨q1, -, q3⟩ | ⟨-, h, -⟩
    · have lu := CX_lt (mem := mem) (j := u) (by omega)
      have cc := c_X0_readCuts m3 (rdFr_B fr hb) (by omega) (by rw [rdFr_1 fr]; omega) (by rw [e5]; exact hc.1)
      rw [rdFr_C fr, rdFr_S fr, e5, q3, e7] at cc
      exact con.mono cc (fun v m q => ⟨c, u, A, W, L, m3, e, c1, q1, fr, e5, e4, q⟩)
    · omega
  · obtain ⟨c, u, A, W, L, m', e, c1, q1, fr, e5, e4, q⟩ := w4
    have hc := hcnt e
    have lu := CX_lt (mem := mem) (j := u) (by omega)
    obtain ⟨t, K, eK, f1, f2, f3, f4, f5, f6, f7⟩ := cutsX_yes q g4
    have fr2 := rdFr_trans fr f1
    have tp := cutsS_pos 24 _ _ _ _ (by omega) (by omega) eK
    have sg := c_X9_sign m5 (rdFr_B fr2 hb) (by omega)
    rw [rdFr_C fr2, rdFr_S fr2, f2] at sg
    refine con.mono sg (fun v m q' => ⟨c, u, A, W, L, t, K, e, c1, q1, eK, ?_⟩)
    rw [q'.2]
    exact ⟨rdFr_trans fr2 (rdFr_cu _ _), by rw [cuX_ne _ _ (by decide), f3, e5], ⟨by rw [cuX_ne _ _ (by decide), f5, e4.1], by rw [cuX_ne _ _ (by decide), f6, e4.2.1], by rw [cuX_ne _ _ (by decide), f7, e4.2.2]⟩, by rw [cuX_ne _ _ (by decide), f4], q'.1, cuX_at _ _⟩
  · obtain ⟨c, u, A, W, L, e, c1, fr, e7, e5, e4, q1, q2, q3⟩ := w3
    rw [e]
    show bookX mem (if c ≤ 1 then _ else if CX mem u = 59 then _ else if CX mem u = 0 then _ else _) _ _
    rw [if_neg (by omega), if_neg q1, if_neg (by omega)]
    exact ⟨q3, fr⟩
  · obtain ⟨c, u, A, W, L, e, c1, fr, e7, e5, e4, q1, q2, q3⟩ := w3
    rw [e]
    show bookX mem (if c ≤ 1 then _ else if CX mem u = 59 then _ else if CX mem u = 0 then _ else _) _ _
    rw [if_neg (by omega), if_neg q1, if_pos (by omega)]
    exact ⟨rfl, fr, e5, e4.1, e4.2.1, e4.2.2, e7⟩
  · obtain ⟨c, u, A, W, L, t, K, e, c1, q1, eK, fr, e5, e4, e7, q2, q3⟩ := w5
    rw [e]
    show bookX mem (if c ≤ 1 then _ else if CX mem u = 59 then _ else _) _ _
    rw [if_neg (by omega), if_pos q1, eK]
    show bookX mem (if CX mem (SX mem t) = 0 then _ else _) _ _
    rw [if_neg (by omega)]
    exact ⟨q3, fr⟩
  · obtain ⟨c, u, A, W, L, t, K, e, c1, q1, eK, fr, e5, e4, e7, q2, q3⟩ := w5
    rw [e]
    show bookX mem (if c ≤ 1 then _ else if CX mem u = 59 then _ else _) _ _
    rw [if_neg (by omega), if_pos q1, eK]
    show bookX mem (if CX mem (SX mem t) = 0 then _ else _) _ _
    rw [if_pos (by omega)]
    exact ⟨rfl, fr, e5, e4.1, e4.2.1, e4.2.2, e7⟩
  · obtain ⟨c, u, A, W, L, m', e, c1, q1, fr, e5, e4, q⟩ := w4
    obtain ⟨f, eK, f1, f2⟩ := cutsX_no q g4
    rw [e]
    show bookX mem (if c ≤ 1 then _ else if CX mem u = 59 then _ else _) _ _
    rw [if_neg (by omega), if_pos q1, eK]
    exact ⟨f2, rdFr_trans fr f1⟩
  · rcases sayX_no w1 g with ⟨f, e, f1, f2⟩ | ⟨c, u, A, W, L, e, c1, f1, f2⟩
    · rw [e]
      exact ⟨f1, rdFr_trans frZ f2⟩
    · rw [e]
      show bookX mem (if c ≤ 1 then _ else _) _ _
      rw [if_pos c1]
      exact ⟨f1, rdFr_trans frZ f2⟩
  · obtain ⟨c, u, A, W, L, e, c1, fr, e7, e5, e4, h⟩ := w2
    rcases h with ⟨-, rfl, -⟩ | ⟨-, rfl, -⟩ <;> exact ⟨by decide, by decide⟩
  · obtain ⟨c, u, A, W, L, e, c1, fr, e7, e5, e4, q1, q2, q3⟩ := w3
    have := CX_rng hb u
    exact ⟨by omega, by omega⟩
  · obtain ⟨c, u, A, W, L, m', e, c1, q1, fr, e5, e4, q⟩ := w4
    exact cutsX_01 q
  · obtain ⟨c, u, A, W, L, t, K, e, c1, q1, eK, fr, e5, e4, e7, q2, q3⟩ := w5
    have := CX_rng hb (SX mem t)
    exact ⟨by omega, by omega⟩
