/-! the model reads a speech -/
theorem cn_X12_speechText {d : Nat} {P : mmM → Prop} {mem : mmM} (h : mmT bX12_speechText d 0 0 (mQv P) 0 [(2, 65), (9, 0), (9, 0), (9, 0)] [] mS mem) : conv bX12_speechText d [(2, 65)] mem P := mmC_of [(2, 65), (9, 0), (9, 0), (9, 0)] ok_X12_speechText.2.2.2.2 rfl (Nat.le_of_ble_eq_true rfl) h
theorem bk_X12_speechText_0 {d : Nat} {d1 : Nat} {P1 : Int → mmM → Prop} {P : mmM → Prop} {mem : mmM}
  (c1 : (0 ≤ ((hereM (lookM mem)) - 65) ∧ ((hereM (lookM mem)) - 65) ≤ 7) → (0 ≤ ((hereM (lookM (mset (lookM mem) 65 3 (((lookM mem) 65 3) + 1)))) - 97) ∧ ((hereM (lookM (mset (lookM mem) 65 3 (((lookM mem) 65 3) + 1)))) - 97) ≤ 25) → (48 ≤ (hereM (lookM (mset (lookM (mset (lookM mem) 65 3 (((lookM mem) 65 3) + 1))) 65 3 (((lookM (mset (lookM mem) 65 3 (((lookM mem) 65 3) + 1))) 65 3) + 1)))) ∧ (hereM (lookM (mset (lookM (mset (lookM mem) 65 3 (((lookM mem) 65 3) + 1))) 65 3 (((lookM (mset (lookM mem) 65 3 (((lookM mem) 65 3) + 1))) 65 3) + 1)))) ≤ 57) → con 0 bX12_digits d1 [(2, 65)] (lookM (mset (lookM (mset (lookM mem) 65 3 (((lookM mem) 65 3) + 1))) 65 3 (((lookM (mset (lookM mem) 65 3 (((lookM mem) 65 3) + 1))) 65 3) + 1))) P1)
  (q1 : (0 ≤ ((hereM (lookM mem)) - 65) ∧ ((hereM (lookM mem)) - 65) ≤ 7) → (0 ≤ ((hereM (lookM (mset (lookM mem) 65 3 (((lookM mem) 65 3) + 1)))) - 97) ∧ ((hereM (lookM (mset (lookM mem) 65 3 (((lookM mem) 65 3) + 1)))) - 97) ≤ 25) → ¬ (48 ≤ (hereM (lookM (mset (lookM (mset (lookM mem) 65 3 (((lookM mem) 65 3) + 1))) 65 3 (((lookM (mset (lookM mem) 65 3 (((lookM mem) 65 3) + 1))) 65 3) + 1)))) ∧ (hereM (lookM (mset (lookM (mset (lookM mem) 65 3 (((lookM mem) 65 3) + 1))) 65 3 (((lookM (mset (lookM mem) 65 3 (((lookM mem) 65 3) + 1))) 65 3) + 1)))) ≤ 57) → P (mset (mset (mset (mset (lookM (mset (lookM (mset (lookM mem) 65 3 (((lookM mem) 65 3) + 1))) 65 3 (((lookM (mset (lookM mem) 65 3 (((lookM mem) 65 3) + 1))) 65 3) + 1))) 76 ((lookM (mset (lookM (mset (lookM mem) 65 3 (((lookM mem) 65 3) + 1))) 65 3 (((lookM (mset (lookM mem) 65 3 (((lookM mem) 65 3) + 1))) 65 3) + 1))) 65 20) ((hereM (lookM mem)) - 65)) 77 ((lookM (mset (lookM (mset (lookM mem) 65 3 (((lookM mem) 65 3) + 1))) 65 3 (((lookM (mset (lookM mem) 65 3 (((lookM mem) 65 3) + 1))) 65 3) + 1))) 65 20) ((hereM (lookM (mset (lookM mem) 65 3 (((lookM mem) 65 3) + 1)))) - 97)) 78 ((lookM (mset (lookM (mset (lookM mem) 65 3 (((lookM mem) 65 3) + 1))) 65 3 (((lookM (mset (lookM mem) 65 3 (((lookM mem) 65 3) + 1))) 65 3) + 1))) 65 20) 5) 65 20 (((lookM (mset (lookM (mset (lookM mem) 65 3 (((lookM mem) 65 3) + 1))) 65 3 (((lookM (mset (lookM mem) 65 3 (((lookM mem) 65 3) + 1))) 65 3) + 1))) 65 20) + 1)))
  (q2 : (0 ≤ ((hereM (lookM mem)) - 65) ∧ ((hereM (lookM mem)) - 65) ≤ 7) → (0 ≤ ((hereM (lookM (mset (lookM mem) 65 3 (((lookM mem) 65 3) + 1)))) - 97) ∧ ((hereM (lookM (mset (lookM mem) 65 3 (((lookM mem) 65 3) + 1)))) - 97) ≤ 25) → (48 ≤ (hereM (lookM (mset (lookM (mset (lookM mem) 65 3 (((lookM mem) 65 3) + 1))) 65 3 (((lookM (mset (lookM mem) 65 3 (((lookM mem) 65 3) + 1))) 65 3) + 1)))) ∧ (hereM (lookM (mset (lookM (mset (lookM mem) 65 3 (((lookM mem) 65 3) + 1))) 65 3 (((lookM (mset (lookM mem) 65 3 (((lookM mem) 65 3) + 1))) 65 3) + 1)))) ≤ 57) → ∀ (v7 : Int), ∀ (m7 : mmM), P1 v7 m7 → ¬ v7 = 0 → P (mset (mset (mset (mset m7 76 (m7 65 20) ((hereM (lookM mem)) - 65)) 77 (m7 65 20) ((hereM (lookM (mset (lookM mem) 65 3 (((lookM mem) 65 3) + 1)))) - 97)) 78 (m7 65 20) v7) 65 20 ((m7 65 20) + 1)))
  (q3 : (0 ≤ ((hereM (lookM mem)) - 65) ∧ ((hereM (lookM mem)) - 65) ≤ 7) → (0 ≤ ((hereM (lookM (mset (lookM mem) 65 3 (((lookM mem) 65 3) + 1)))) - 97) ∧ ((hereM (lookM (mset (lookM mem) 65 3 (((lookM mem) 65 3) + 1)))) - 97) ≤ 25) → (48 ≤ (hereM (lookM (mset (lookM (mset (lookM mem) 65 3 (((lookM mem) 65 3) + 1))) 65 3 (((lookM (mset (lookM mem) 65 3 (((lookM mem) 65 3) + 1))) 65 3) + 1)))) ∧ (hereM (lookM (mset (lookM (mset (lookM mem) 65 3 (((lookM mem) 65 3) + 1))) 65 3 (((lookM (mset (lookM mem) 65 3 (((lookM mem) 65 3) + 1))) 65 3) + 1)))) ≤ 57) → ∀ (v7 : Int), ∀ (m7 : mmM), P1 v7 m7 → v7 = 0 → P (mset (mset (mset (mset (lastM m7) 76 ((lastM m7) 65 20) ((hereM (lookM mem)) - 65)) 77 ((lastM m7) 65 20) ((hereM (lookM (mset (lookM mem) 65 3 (((lookM mem) 65 3) + 1)))) - 97)) 78 ((lastM m7) 65 20) v7) 65 20 (((lastM m7) 65 20) + 1)))
  (q4 : (0 ≤ ((hereM (lookM mem)) - 65) ∧ ((hereM (lookM mem)) - 65) ≤ 7) → ¬ (0 ≤ ((hereM (lookM (mset (lookM mem) 65 3 (((lookM mem) 65 3) + 1)))) - 97) ∧ ((hereM (lookM (mset (lookM mem) 65 3 (((lookM mem) 65 3) + 1)))) - 97) ≤ 25) → P (badM (lookM (mset (lookM mem) 65 3 (((lookM mem) 65 3) + 1)))))
  (q5 : ¬ (0 ≤ ((hereM (lookM mem)) - 65) ∧ ((hereM (lookM mem)) - 65) ≤ 7) → P (badM (lookM mem)))
  (hd_d1 : d1 + 1 ≤ d := by omega)
  (hd1 : 1 ≤ d := by omega)
  (hd2 : 2 ≤ d := by omega)
  (s1 : bytM mem := by intros; first | omega | assumption | solve_by_elim)
  (s2 : 0 ≤ (mem 65 3) := by intros; first | omega | assumption | solve_by_elim)
  (s3 : R32 ((hereM (lookM mem)) - 65) := by intros; first | omega | assumption | solve_by_elim)
  (s4 : (0 ≤ ((hereM (lookM mem)) - 65) ∧ ((hereM (lookM mem)) - 65) ≤ 7) → R32 (((lookM mem) 65 3) + 1) := by intros; first | omega | assumption | solve_by_elim)
  (s5 : (0 ≤ ((hereM (lookM mem)) - 65) ∧ ((hereM (lookM mem)) - 65) ≤ 7) → bytM (mset (lookM mem) 65 3 (((lookM mem) 65 3) + 1)) := by intros; first | omega | assumption | solve_by_elim)
  (s6 : (0 ≤ ((hereM (lookM mem)) - 65) ∧ ((hereM (lookM mem)) - 65) ≤ 7) → 0 ≤ ((mset (lookM mem) 65 3 (((lookM mem) 65 3) + 1)) 65 3) := by intros; first | omega | assumption | solve_by_elim)
  (s7 : (0 ≤ ((hereM (lookM mem)) - 65) ∧ ((hereM (lookM mem)) - 65) ≤ 7) → R32 ((hereM (lookM (mset (lookM mem) 65 3 (((lookM mem) 65 3) + 1)))) - 97) := by intros; first | omega | assumption | solve_by_elim)
  (s8 : (0 ≤ ((hereM (lookM mem)) - 65) ∧ ((hereM (lookM mem)) - 65) ≤ 7) → (0 ≤ ((hereM (lookM (mset (lookM mem) 65 3 (((lookM mem) 65 3) + 1)))) - 97) ∧ ((hereM (lookM (mset (lookM mem) 65 3 (((lookM mem) 65 3) + 1)))) - 97) ≤ 25) → R32 (((lookM (mset (lookM mem) 65 3 (((lookM mem) 65 3) + 1))) 65 3) + 1) := by intros; first | omega | assumption | solve_by_elim)
  (s9 : (0 ≤ ((hereM (lookM mem)) - 65) ∧ ((hereM (lookM mem)) - 65) ≤ 7) → (0 ≤ ((hereM (lookM (mset (lookM mem) 65 3 (((lookM mem) 65 3) + 1)))) - 97) ∧ ((hereM (lookM (mset (lookM mem) 65 3 (((lookM mem) 65 3) + 1)))) - 97) ≤ 25) → bytM (mset (lookM (mset (lookM mem) 65 3 (((lookM mem) 65 3) + 1))) 65 3 (((lookM (mset (lookM mem) 65 3 (((lookM mem) 65 3) + 1))) 65 3) + 1)) := by intros; first | omega | assumption | solve_by_elim)
  (s10 : (0 ≤ ((hereM (lookM mem)) - 65) ∧ ((hereM (lookM mem)) - 65) ≤ 7) → (0 ≤ ((hereM (lookM (mset (lookM mem) 65 3 (((lookM mem) 65 3) + 1)))) - 97) ∧ ((hereM (lookM (mset (lookM mem) 65 3 (((lookM mem) 65 3) + 1)))) - 97) ≤ 25) → 0 ≤ ((mset (lookM (mset (lookM mem) 65 3 (((lookM mem) 65 3) + 1))) 65 3 (((lookM (mset (lookM mem) 65 3 (((lookM mem) 65 3) + 1))) 65 3) + 1)) 65 3) := by intros; first | omega | assumption | solve_by_elim)
  (s11 : (0 ≤ ((hereM (lookM mem)) - 65) ∧ ((hereM (lookM mem)) - 65) ≤ 7) → (0 ≤ ((hereM (lookM (mset (lookM mem) 65 3 (((lookM mem) 65 3) + 1)))) - 97) ∧ ((hereM (lookM (mset (lookM mem) 65 3 (((lookM mem) 65 3) + 1)))) - 97) ≤ 25) → ¬ (48 ≤ (hereM (lookM (mset (lookM (mset (lookM mem) 65 3 (((lookM mem) 65 3) + 1))) 65 3 (((lookM (mset (lookM mem) 65 3 (((lookM mem) 65 3) + 1))) 65 3) + 1)))) ∧ (hereM (lookM (mset (lookM (mset (lookM mem) 65 3 (((lookM mem) 65 3) + 1))) 65 3 (((lookM (mset (lookM mem) 65 3 (((lookM mem) 65 3) + 1))) 65 3) + 1)))) ≤ 57) → 0 ≤ ((lookM (mset (lookM (mset (lookM mem) 65 3 (((lookM mem) 65 3) + 1))) 65 3 (((lookM (mset (lookM mem) 65 3 (((lookM mem) 65 3) + 1))) 65 3) + 1))) 65 20) ∧ ((lookM (mset (lookM (mset (lookM mem) 65 3 (((lookM mem) 65 3) + 1))) 65 3 (((lookM (mset (lookM mem) 65 3 (((lookM mem) 65 3) + 1))) 65 3) + 1))) 65 20) < 24 := by intros; first | omega | assumption | solve_by_elim)
  (s12 : (0 ≤ ((hereM (lookM mem)) - 65) ∧ ((hereM (lookM mem)) - 65) ≤ 7) → (0 ≤ ((hereM (lookM (mset (lookM mem) 65 3 (((lookM mem) 65 3) + 1)))) - 97) ∧ ((hereM (lookM (mset (lookM mem) 65 3 (((lookM mem) 65 3) + 1)))) - 97) ≤ 25) → ¬ (48 ≤ (hereM (lookM (mset (lookM (mset (lookM mem) 65 3 (((lookM mem) 65 3) + 1))) 65 3 (((lookM (mset (lookM mem) 65 3 (((lookM mem) 65 3) + 1))) 65 3) + 1)))) ∧ (hereM (lookM (mset (lookM (mset (lookM mem) 65 3 (((lookM mem) 65 3) + 1))) 65 3 (((lookM (mset (lookM mem) 65 3 (((lookM mem) 65 3) + 1))) 65 3) + 1)))) ≤ 57) → R32 (((lookM (mset (lookM (mset (lookM mem) 65 3 (((lookM mem) 65 3) + 1))) 65 3 (((lookM (mset (lookM mem) 65 3 (((lookM mem) 65 3) + 1))) 65 3) + 1))) 65 20) + 1) := by intros; first | omega | assumption | solve_by_elim)
  (s13 : (0 ≤ ((hereM (lookM mem)) - 65) ∧ ((hereM (lookM mem)) - 65) ≤ 7) → (0 ≤ ((hereM (lookM (mset (lookM mem) 65 3 (((lookM mem) 65 3) + 1)))) - 97) ∧ ((hereM (lookM (mset (lookM mem) 65 3 (((lookM mem) 65 3) + 1)))) - 97) ≤ 25) → (48 ≤ (hereM (lookM (mset (lookM (mset (lookM mem) 65 3 (((lookM mem) 65 3) + 1))) 65 3 (((lookM (mset (lookM mem) 65 3 (((lookM mem) 65 3) + 1))) 65 3) + 1)))) ∧ (hereM (lookM (mset (lookM (mset (lookM mem) 65 3 (((lookM mem) 65 3) + 1))) 65 3 (((lookM (mset (lookM mem) 65 3 (((lookM mem) 65 3) + 1))) 65 3) + 1)))) ≤ 57) → ∀ (v7 : Int), ∀ (m7 : mmM), P1 v7 m7 → R32 v7 := by intros; first | omega | assumption | solve_by_elim)
  (s14 : (0 ≤ ((hereM (lookM mem)) - 65) ∧ ((hereM (lookM mem)) - 65) ≤ 7) → (0 ≤ ((hereM (lookM (mset (lookM mem) 65 3 (((lookM mem) 65 3) + 1)))) - 97) ∧ ((hereM (lookM (mset (lookM mem) 65 3 (((lookM mem) 65 3) + 1)))) - 97) ≤ 25) → (48 ≤ (hereM (lookM (mset (lookM (mset (lookM mem) 65 3 (((lookM mem) 65 3) + 1))) 65 3 (((lookM (mset (lookM mem) 65 3 (((lookM mem) 65 3) + 1))) 65 3) + 1)))) ∧ (hereM (lookM (mset (lookM (mset (lookM mem) 65 3 (((lookM mem) 65 3) + 1))) 65 3 (((lookM (mset (lookM mem) 65 3 (((lookM mem) 65 3) + 1))) 65 3) + 1)))) ≤ 57) → ∀ (v7 : Int), ∀ (m7 : mmM), P1 v7 m7 → ¬ v7 = 0 → 0 ≤ (m7 65 20) ∧ (m7 65 20) < 24 := by intros; first | omega | assumption | solve_by_elim)
  (s15 : (0 ≤ ((hereM (lookM mem)) - 65) ∧ ((hereM (lookM mem)) - 65) ≤ 7) → (0 ≤ ((hereM (lookM (mset (lookM mem) 65 3 (((lookM mem) 65 3) + 1)))) - 97) ∧ ((hereM (lookM (mset (lookM mem) 65 3 (((lookM mem) 65 3) + 1)))) - 97) ≤ 25) → (48 ≤ (hereM (lookM (mset (lookM (mset (lookM mem) 65 3 (((lookM mem) 65 3) + 1))) 65 3 (((lookM (mset (lookM mem) 65 3 (((lookM mem) 65 3) + 1))) 65 3) + 1)))) ∧ (hereM (lookM (mset (lookM (mset (lookM mem) 65 3 (((lookM mem) 65 3) + 1))) 65 3 (((lookM (mset (lookM mem) 65 3 (((lookM mem) 65 3) + 1))) 65 3) + 1)))) ≤ 57) → ∀ (v7 : Int), ∀ (m7 : mmM), P1 v7 m7 → ¬ v7 = 0 → R32 ((m7 65 20) + 1) := by intros; first | omega | assumption | solve_by_elim)
  (s16 : (0 ≤ ((hereM (lookM mem)) - 65) ∧ ((hereM (lookM mem)) - 65) ≤ 7) → (0 ≤ ((hereM (lookM (mset (lookM mem) 65 3 (((lookM mem) 65 3) + 1)))) - 97) ∧ ((hereM (lookM (mset (lookM mem) 65 3 (((lookM mem) 65 3) + 1)))) - 97) ≤ 25) → (48 ≤ (hereM (lookM (mset (lookM (mset (lookM mem) 65 3 (((lookM mem) 65 3) + 1))) 65 3 (((lookM (mset (lookM mem) 65 3 (((lookM mem) 65 3) + 1))) 65 3) + 1)))) ∧ (hereM (lookM (mset (lookM (mset (lookM mem) 65 3 (((lookM mem) 65 3) + 1))) 65 3 (((lookM (mset (lookM mem) 65 3 (((lookM mem) 65 3) + 1))) 65 3) + 1)))) ≤ 57) → ∀ (v7 : Int), ∀ (m7 : mmM), P1 v7 m7 → v7 = 0 → R32 ((m7 65 3) - 1) := by intros; first | omega | assumption | solve_by_elim)
  (s17 : (0 ≤ ((hereM (lookM mem)) - 65) ∧ ((hereM (lookM mem)) - 65) ≤ 7) → (0 ≤ ((hereM (lookM (mset (lookM mem) 65 3 (((lookM mem) 65 3) + 1)))) - 97) ∧ ((hereM (lookM (mset (lookM mem) 65 3 (((lookM mem) 65 3) + 1)))) - 97) ≤ 25) → (48 ≤ (hereM (lookM (mset (lookM (mset (lookM mem) 65 3 (((lookM mem) 65 3) + 1))) 65 3 (((lookM (mset (lookM mem) 65 3 (((lookM mem) 65 3) + 1))) 65 3) + 1)))) ∧ (hereM (lookM (mset (lookM (mset (lookM mem) 65 3 (((lookM mem) 65 3) + 1))) 65 3 (((lookM (mset (lookM mem) 65 3 (((lookM mem) 65 3) + 1))) 65 3) + 1)))) ≤ 57) → ∀ (v7 : Int), ∀ (m7 : mmM), P1 v7 m7 → v7 = 0 → 0 ≤ ((lastM m7) 65 20) ∧ ((lastM m7) 65 20) < 24 := by intros; first | omega | assumption | solve_by_elim)
  (s18 : (0 ≤ ((hereM (lookM mem)) - 65) ∧ ((hereM (lookM mem)) - 65) ≤ 7) → (0 ≤ ((hereM (lookM (mset (lookM mem) 65 3 (((lookM mem) 65 3) + 1)))) - 97) ∧ ((hereM (lookM (mset (lookM mem) 65 3 (((lookM mem) 65 3) + 1)))) - 97) ≤ 25) → (48 ≤ (hereM (lookM (mset (lookM (mset (lookM mem) 65 3 (((lookM mem) 65 3) + 1))) 65 3 (((lookM (mset (lookM mem) 65 3 (((lookM mem) 65 3) + 1))) 65 3) + 1)))) ∧ (hereM (lookM (mset (lookM (mset (lookM mem) 65 3 (((lookM mem) 65 3) + 1))) 65 3 (((lookM (mset (lookM mem) 65 3 (((lookM mem) 65 3) + 1))) 65 3) + 1)))) ≤ 57) → ∀ (v7 : Int), ∀ (m7 : mmM), P1 v7 m7 → v7 = 0 → R32 (((lastM m7) 65 20) + 1) := by intros; first | omega | assumption | solve_by_elim)
  : mmT bX12_speechText d 0 0 (mQv P) 0 [(2, 65), (9, 0), (9, 0), (9, 0)] [] mS mem := by
  refine st_aload_n (i := 0) rfl (t := 0) rfl (by decide) dX12_speechText_0 ?_
  refine st_callV (kc2 := 0) (ks2 := 0) (av := []) 65 11 mr_X12_143 ok_X12_look (c_X12_look mem (s1) (s2)) rfl sh_65 ⟨_, rfl, rfl, by decide⟩ rfl rfl hd2 (Nat.le_refl 0) (Nat.le_refl 0) (Nat.le_of_ble_eq_true rfl) dX12_speechText_1 (mQ.elim fun v1 m1 hp => ?_)
  obtain ⟨hpv, hpm⟩ := hp
  subst hpv
  have hpm := hpm.symm
  subst hpm
  refine st_bipush rfl dX12_speechText_4 ?_
  refine st_isub dX12_speechText_6 ?_
  refine st_istore_n (i := 1) rfl (by decide) (lc' := [(2, 65), (0, ((hereM (lookM mem)) - 65)), (9, 0), (9, 0)]) rfl dX12_speechText_7 ?_
  refine st_iload_n (i := 1) rfl rfl dX12_speechText_8 ?_
  refine st_iconst dX12_speechText_9 ?_
  refine st_bipush rfl dX12_speechText_10 ?_
  refine st_callS (kc2 := 0) (ks2 := 0) (av := [(0, ((hereM (lookM mem)) - 65)), (0, 0), (0, 7)]) mr_X12_229 ok_X12_in (c_X12_in (lookM mem) ((hereM (lookM mem)) - 65) 0 7 (s3) (⟨by decide, by decide⟩) (⟨by decide, by decide⟩)) rfl rfl hd2 (Nat.le_refl 0) (Nat.le_refl 0) (Nat.le_of_ble_eq_true rfl) dX12_speechText_12 (mQ.elim fun v2 m2 hp => ?_)
  obtain ⟨hpv, hpm⟩ := hp
  subst hpv
  have hpm := hpm.symm
  subst hpm
  refine so_ifneB 23 (by decide) dX12_speechText_15 (fun h1 => ?_) (fun h1 => ?_)
  · have h1 : (0 ≤ ((hereM (lookM mem)) - 65) ∧ ((hereM (lookM mem)) - 65) ≤ 7) := h1
    refine st_aload_n (i := 0) rfl (t := 0) rfl (by decide) dX12_speechText_23 ?_
    refine st_dup (Nat.ne_of_beq_eq_false rfl) dX12_speechText_24 ?_
    refine so_getI (v := ((lookM mem) 65 3)) 65 3 fr_X12_124_11 rfl sh_65 rfl dX12_speechText_25 (fun r1 => ?_)
    refine st_iconst dX12_speechText_28 ?_
    refine st_iadd dX12_speechText_29 ?_
    refine so_putI 65 3 fr_X12_124_11 pf_11_3 fo_65_3 rfl sh_65 (s4 h1) dX12_speechText_30 ?_
    refine st_aload_n (i := 0) rfl (t := 0) rfl (by decide) dX12_speechText_33 ?_
    refine st_callV (kc2 := 0) (ks2 := 0) (av := []) 65 11 mr_X12_143 ok_X12_look (c_X12_look (mset (lookM mem) 65 3 (((lookM mem) 65 3) + 1)) ((s5 h1)) ((s6 h1))) rfl sh_65 ⟨_, rfl, rfl, by decide⟩ rfl rfl hd2 (Nat.le_refl 0) (Nat.le_refl 0) (Nat.le_of_ble_eq_true rfl) dX12_speechText_34 (mQ.elim fun v3 m3 hp => ?_)
    obtain ⟨hpv, hpm⟩ := hp
    subst hpv
    have hpm := hpm.symm
    subst hpm
    refine st_bipush rfl dX12_speechText_37 ?_
    refine st_isub dX12_speechText_39 ?_
    refine st_istore_n (i := 2) rfl (by decide) (lc' := [(2, 65), (0, ((hereM (lookM mem)) - 65)), (0, ((hereM (lookM (mset (lookM mem) 65 3 (((lookM mem) 65 3) + 1)))) - 97)), (9, 0)]) rfl dX12_speechText_40 ?_
    refine st_iload_n (i := 2) rfl rfl dX12_speechText_41 ?_
    refine st_iconst dX12_speechText_42 ?_
    refine st_bipush rfl dX12_speechText_43 ?_
    refine st_callS (kc2 := 0) (ks2 := 0) (av := [(0, ((hereM (lookM (mset (lookM mem) 65 3 (((lookM mem) 65 3) + 1)))) - 97)), (0, 0), (0, 25)]) mr_X12_229 ok_X12_in (c_X12_in (lookM (mset (lookM mem) 65 3 (((lookM mem) 65 3) + 1))) ((hereM (lookM (mset (lookM mem) 65 3 (((lookM mem) 65 3) + 1)))) - 97) 0 25 ((s7 h1)) (⟨by decide, by decide⟩) (⟨by decide, by decide⟩)) rfl rfl hd2 (Nat.le_refl 0) (Nat.le_refl 0) (Nat.le_of_ble_eq_true rfl) dX12_speechText_45 (mQ.elim fun v4 m4 hp => ?_)
    obtain ⟨hpv, hpm⟩ := hp
    subst hpv
    have hpm := hpm.symm
    subst hpm
    refine so_ifneB 56 (by decide) dX12_speechText_48 (fun h2 => ?_) (fun h2 => ?_)
    · have h2 : (0 ≤ ((hereM (lookM (mset (lookM mem) 65 3 (((lookM mem) 65 3) + 1)))) - 97) ∧ ((hereM (lookM (mset (lookM mem) 65 3 (((lookM mem) 65 3) + 1)))) - 97) ≤ 25) := h2
      refine st_aload_n (i := 0) rfl (t := 0) rfl (by decide) dX12_speechText_56 ?_
      refine st_dup (Nat.ne_of_beq_eq_false rfl) dX12_speechText_57 ?_
      refine so_getI (v := ((lookM (mset (lookM mem) 65 3 (((lookM mem) 65 3) + 1))) 65 3)) 65 3 fr_X12_124_11 rfl sh_65 rfl dX12_speechText_58 (fun r2 => ?_)
      refine st_iconst dX12_speechText_61 ?_
      refine st_iadd dX12_speechText_62 ?_
      refine so_putI 65 3 fr_X12_124_11 pf_11_3 fo_65_3 rfl sh_65 (s8 h1 h2) dX12_speechText_63 ?_
      refine st_iconst dX12_speechText_66 ?_
      refine st_istore_n (i := 3) rfl (by decide) (lc' := [(2, 65), (0, ((hereM (lookM mem)) - 65)), (0, ((hereM (lookM (mset (lookM mem) 65 3 (((lookM mem) 65 3) + 1)))) - 97)), (0, 5)]) rfl dX12_speechText_67 ?_
      refine st_aload_n (i := 0) rfl (t := 0) rfl (by decide) dX12_speechText_68 ?_
      refine st_callV (kc2 := 0) (ks2 := 0) (av := []) 65 11 mr_X12_143 ok_X12_look (c_X12_look (mset (lookM (mset (lookM mem) 65 3 (((lookM mem) 65 3) + 1))) 65 3 (((lookM (mset (lookM mem) 65 3 (((lookM mem) 65 3) + 1))) 65 3) + 1)) ((s9 h1 h2)) ((s10 h1 h2))) rfl sh_65 ⟨_, rfl, rfl, by decide⟩ rfl rfl hd2 (Nat.le_refl 0) (Nat.le_refl 0) (Nat.le_of_ble_eq_true rfl) dX12_speechText_69 (mQ.elim fun v5 m5 hp => ?_)
      obtain ⟨hpv, hpm⟩ := hp
      subst hpv
      have hpm := hpm.symm
      subst hpm
      refine st_callS (kc2 := 0) (ks2 := 0) (av := [(0, (hereM (lookM (mset (lookM (mset (lookM mem) 65 3 (((lookM mem) 65 3) + 1))) 65 3 (((lookM (mset (lookM mem) 65 3 (((lookM mem) 65 3) + 1))) 65 3) + 1)))))]) mr_X12_146 ok_X12_isDigit (c_X12_isDigit (lookM (mset (lookM (mset (lookM mem) 65 3 (((lookM mem) 65 3) + 1))) 65 3 (((lookM (mset (lookM mem) 65 3 (((lookM mem) 65 3) + 1))) 65 3) + 1))) (hereM (lookM (mset (lookM (mset (lookM mem) 65 3 (((lookM mem) 65 3) + 1))) 65 3 (((lookM (mset (lookM mem) 65 3 (((lookM mem) 65 3) + 1))) 65 3) + 1)))) ((lookM_rng (mset (lookM (mset (lookM mem) 65 3 (((lookM mem) 65 3) + 1))) 65 3 (((lookM (mset (lookM mem) 65 3 (((lookM mem) 65 3) + 1))) 65 3) + 1)) ((s9 h1 h2)) ((s10 h1 h2))))) rfl rfl hd2 (Nat.le_refl 0) (Nat.le_refl 0) (Nat.le_of_ble_eq_true rfl) dX12_speechText_72 (mQ.elim fun v6 m6 hp => ?_)
      obtain ⟨hpv, hpm⟩ := hp
      subst hpv
      have hpm := hpm.symm
      subst hpm
      refine so_ifeqB 91 (by decide) dX12_speechText_75 (fun h3 => ?_) (fun h3 => ?_)
      · have h3 : ¬ (48 ≤ (hereM (lookM (mset (lookM (mset (lookM mem) 65 3 (((lookM mem) 65 3) + 1))) 65 3 (((lookM (mset (lookM mem) 65 3 (((lookM mem) 65 3) + 1))) 65 3) + 1)))) ∧ (hereM (lookM (mset (lookM (mset (lookM mem) 65 3 (((lookM mem) 65 3) + 1))) 65 3 (((lookM (mset (lookM mem) 65 3 (((lookM mem) 65 3) + 1))) 65 3) + 1)))) ≤ 57) := h3
        refine st_aload_n (i := 0) rfl (t := 0) rfl (by decide) dX12_speechText_91 ?_
        refine so_getA 65 17 fr_X12_40_11 rfl sh_65 fx_65_17 dX12_speechText_92 ?_
        refine st_aload_n (i := 0) rfl (t := 0) rfl (by decide) dX12_speechText_95 ?_
        refine so_getI (v := ((lookM (mset (lookM (mset (lookM mem) 65 3 (((lookM mem) 65 3) + 1))) 65 3 (((lookM (mset (lookM mem) 65 3 (((lookM mem) 65 3) + 1))) 65 3) + 1))) 65 20)) 65 20 fr_X12_239_11 rfl sh_65 rfl dX12_speechText_96 (fun r3 => ?_)
        refine st_iload_n (i := 1) rfl rfl dX12_speechText_99 ?_
        refine so_iast 76 fr_76 rfl sh_76 (by decide) (s11 h1 h2 h3) s3 dX12_speechText_100 ?_
        refine st_aload_n (i := 0) rfl (t := 0) rfl (by decide) dX12_speechText_101 ?_
        refine so_getA 65 18 fr_X12_43_11 rfl sh_65 fx_65_18 dX12_speechText_102 ?_
        refine st_aload_n (i := 0) rfl (t := 0) rfl (by decide) dX12_speechText_105 ?_
        refine so_getI (v := ((lookM (mset (lookM (mset (lookM mem) 65 3 (((lookM mem) 65 3) + 1))) 65 3 (((lookM (mset (lookM mem) 65 3 (((lookM mem) 65 3) + 1))) 65 3) + 1))) 65 20)) 65 20 fr_X12_239_11 rfl sh_65 rfl dX12_speechText_106 (fun r4 => ?_)
        refine st_iload_n (i := 2) rfl rfl dX12_speechText_109 ?_
        refine so_iast 77 fr_77 rfl sh_77 (by decide) (s11 h1 h2 h3) (s7 h1) dX12_speechText_110 ?_
        refine st_aload_n (i := 0) rfl (t := 0) rfl (by decide) dX12_speechText_111 ?_
        refine so_getA 65 19 fr_X12_46_11 rfl sh_65 fx_65_19 dX12_speechText_112 ?_
        refine st_aload_n (i := 0) rfl (t := 0) rfl (by decide) dX12_speechText_115 ?_
        refine so_getI (v := ((lookM (mset (lookM (mset (lookM mem) 65 3 (((lookM mem) 65 3) + 1))) 65 3 (((lookM (mset (lookM mem) 65 3 (((lookM mem) 65 3) + 1))) 65 3) + 1))) 65 20)) 65 20 fr_X12_239_11 rfl sh_65 rfl dX12_speechText_116 (fun r5 => ?_)
        refine st_iload_n (i := 3) rfl rfl dX12_speechText_119 ?_
        refine so_iast 78 fr_78 rfl sh_78 (by decide) (s11 h1 h2 h3) ⟨by decide, by decide⟩ dX12_speechText_120 ?_
        refine st_aload_n (i := 0) rfl (t := 0) rfl (by decide) dX12_speechText_121 ?_
        refine st_dup (Nat.ne_of_beq_eq_false rfl) dX12_speechText_122 ?_
        refine so_getI (v := ((lookM (mset (lookM (mset (lookM mem) 65 3 (((lookM mem) 65 3) + 1))) 65 3 (((lookM (mset (lookM mem) 65 3 (((lookM mem) 65 3) + 1))) 65 3) + 1))) 65 20)) 65 20 fr_X12_239_11 rfl sh_65 rfl dX12_speechText_123 (fun r6 => ?_)
        refine st_iconst dX12_speechText_126 ?_
        refine st_iadd dX12_speechText_127 ?_
        refine so_putI 65 20 fr_X12_239_11 pf_11_20 fo_65_20 rfl sh_65 (s12 h1 h2 h3) dX12_speechText_128 ?_
        exact st_return rfl dX12_speechText_131 (mQv.ret (q1 h1 h2 h3))
      · have h3 : (48 ≤ (hereM (lookM (mset (lookM (mset (lookM mem) 65 3 (((lookM mem) 65 3) + 1))) 65 3 (((lookM (mset (lookM mem) 65 3 (((lookM mem) 65 3) + 1))) 65 3) + 1)))) ∧ (hereM (lookM (mset (lookM (mset (lookM mem) 65 3 (((lookM mem) 65 3) + 1))) 65 3 (((lookM (mset (lookM mem) 65 3 (((lookM mem) 65 3) + 1))) 65 3) + 1)))) ≤ 57) := h3
        refine st_aload_n (i := 0) rfl (t := 0) rfl (by decide) dX12_speechText_78 ?_
        refine st_callV (kc2 := 0) (ks2 := 0) (av := []) 65 11 mr_X12_233 ok_X12_digits (c1 h1 h2 h3) rfl sh_65 ⟨_, rfl, rfl, by decide⟩ rfl rfl hd_d1 (Nat.le_refl 0) (Nat.le_refl 0) (Nat.le_of_ble_eq_true rfl) dX12_speechText_79 (mQ.elim fun v7 m7 p1 => ?_)
        refine st_istore_n (i := 3) rfl (by decide) (lc' := [(2, 65), (0, ((hereM (lookM mem)) - 65)), (0, ((hereM (lookM (mset (lookM mem) 65 3 (((lookM mem) 65 3) + 1)))) - 97)), (0, v7)]) rfl dX12_speechText_82 ?_
        refine st_iload_n (i := 3) rfl rfl dX12_speechText_83 ?_
        refine sr_if_ne 91 (s13 h1 h2 h3 v7 m7 p1) (by decide) dX12_speechText_84 (fun h4 => ?_) (fun h4 => ?_)
        · have h4 : ¬ v7 = 0 := by omega
          refine st_aload_n (i := 0) rfl (t := 0) rfl (by decide) dX12_speechText_91 ?_
          refine so_getA 65 17 fr_X12_40_11 rfl sh_65 fx_65_17 dX12_speechText_92 ?_
          refine st_aload_n (i := 0) rfl (t := 0) rfl (by decide) dX12_speechText_95 ?_
          refine so_getI (v := (m7 65 20)) 65 20 fr_X12_239_11 rfl sh_65 rfl dX12_speechText_96 (fun r7 => ?_)
          refine st_iload_n (i := 1) rfl rfl dX12_speechText_99 ?_
          refine so_iast 76 fr_76 rfl sh_76 (by decide) (s14 h1 h2 h3 v7 m7 p1 h4) s3 dX12_speechText_100 ?_
          refine st_aload_n (i := 0) rfl (t := 0) rfl (by decide) dX12_speechText_101 ?_
          refine so_getA 65 18 fr_X12_43_11 rfl sh_65 fx_65_18 dX12_speechText_102 ?_
          refine st_aload_n (i := 0) rfl (t := 0) rfl (by decide) dX12_speechText_105 ?_
          refine so_getI (v := (m7 65 20)) 65 20 fr_X12_239_11 rfl sh_65 rfl dX12_speechText_106 (fun r8 => ?_)
          refine st_iload_n (i := 2) rfl rfl dX12_speechText_109 ?_
          refine so_iast 77 fr_77 rfl sh_77 (by decide) (s14 h1 h2 h3 v7 m7 p1 h4) (s7 h1) dX12_speechText_110 ?_
          refine st_aload_n (i := 0) rfl (t := 0) rfl (by decide) dX12_speechText_111 ?_
          refine so_getA 65 19 fr_X12_46_11 rfl sh_65 fx_65_19 dX12_speechText_112 ?_
          refine st_aload_n (i := 0) rfl (t := 0) rfl (by decide) dX12_speechText_115 ?_
          refine so_getI (v := (m7 65 20)) 65 20 fr_X12_239_11 rfl sh_65 rfl dX12_speechText_116 (fun r9 => ?_)
          refine st_iload_n (i := 3) rfl rfl dX12_speechText_119 ?_
          refine so_iast 78 fr_78 rfl sh_78 (by decide) (s14 h1 h2 h3 v7 m7 p1 h4) (s13 h1 h2 h3 v7 m7 p1) dX12_speechText_120 ?_
          refine st_aload_n (i := 0) rfl (t := 0) rfl (by decide) dX12_speechText_121 ?_
          refine st_dup (Nat.ne_of_beq_eq_false rfl) dX12_speechText_122 ?_
          refine so_getI (v := (m7 65 20)) 65 20 fr_X12_239_11 rfl sh_65 rfl dX12_speechText_123 (fun r10 => ?_)
          refine st_iconst dX12_speechText_126 ?_
          refine st_iadd dX12_speechText_127 ?_
          refine so_putI 65 20 fr_X12_239_11 pf_11_20 fo_65_20 rfl sh_65 (s15 h1 h2 h3 v7 m7 p1 h4) dX12_speechText_128 ?_
          exact st_return rfl dX12_speechText_131 (mQv.ret (q2 h1 h2 h3 v7 m7 p1 h4))
        · have h4 : v7 = 0 := by omega
          refine st_aload_n (i := 0) rfl (t := 0) rfl (by decide) dX12_speechText_87 ?_
          refine st_callV (kc2 := 0) (ks2 := 0) (av := []) 65 11 mr_X12_236 ok_X12_lastBad (c_X12_lastBad m7 ((s16 h1 h2 h3 v7 m7 p1 h4))) rfl sh_65 ⟨_, rfl, rfl, by decide⟩ rfl rfl hd2 (Nat.le_refl 0) (Nat.le_refl 0) (Nat.le_of_ble_eq_true rfl) dX12_speechText_88 (mQv.elim fun m8 hp => ?_)
          have hp := hp.symm
          subst hp
          refine st_aload_n (i := 0) rfl (t := 0) rfl (by decide) dX12_speechText_91 ?_
          refine so_getA 65 17 fr_X12_40_11 rfl sh_65 fx_65_17 dX12_speechText_92 ?_
          refine st_aload_n (i := 0) rfl (t := 0) rfl (by decide) dX12_speechText_95 ?_
          refine so_getI (v := ((lastM m7) 65 20)) 65 20 fr_X12_239_11 rfl sh_65 rfl dX12_speechText_96 (fun r11 => ?_)
          refine st_iload_n (i := 1) rfl rfl dX12_speechText_99 ?_
          refine so_iast 76 fr_76 rfl sh_76 (by decide) (s17 h1 h2 h3 v7 m7 p1 h4) s3 dX12_speechText_100 ?_
          refine st_aload_n (i := 0) rfl (t := 0) rfl (by decide) dX12_speechText_101 ?_
          refine so_getA 65 18 fr_X12_43_11 rfl sh_65 fx_65_18 dX12_speechText_102 ?_
          refine st_aload_n (i := 0) rfl (t := 0) rfl (by decide) dX12_speechText_105 ?_
          refine so_getI (v := ((lastM m7) 65 20)) 65 20 fr_X12_239_11 rfl sh_65 rfl dX12_speechText_106 (fun r12 => ?_)
          refine st_iload_n (i := 2) rfl rfl dX12_speechText_109 ?_
          refine so_iast 77 fr_77 rfl sh_77 (by decide) (s17 h1 h2 h3 v7 m7 p1 h4) (s7 h1) dX12_speechText_110 ?_
          refine st_aload_n (i := 0) rfl (t := 0) rfl (by decide) dX12_speechText_111 ?_
          refine so_getA 65 19 fr_X12_46_11 rfl sh_65 fx_65_19 dX12_speechText_112 ?_
          refine st_aload_n (i := 0) rfl (t := 0) rfl (by decide) dX12_speechText_115 ?_
          refine so_getI (v := ((lastM m7) 65 20)) 65 20 fr_X12_239_11 rfl sh_65 rfl dX12_speechText_116 (fun r13 => ?_)
          refine st_iload_n (i := 3) rfl rfl dX12_speechText_119 ?_
          refine so_iast 78 fr_78 rfl sh_78 (by decide) (s17 h1 h2 h3 v7 m7 p1 h4) (s13 h1 h2 h3 v7 m7 p1) dX12_speechText_120 ?_
          refine st_aload_n (i := 0) rfl (t := 0) rfl (by decide) dX12_speechText_121 ?_
          refine st_dup (Nat.ne_of_beq_eq_false rfl) dX12_speechText_122 ?_
          refine so_getI (v := ((lastM m7) 65 20)) 65 20 fr_X12_239_11 rfl sh_65 rfl dX12_speechText_123 (fun r14 => ?_)
          refine st_iconst dX12_speechText_126 ?_
          refine st_iadd dX12_speechText_127 ?_
          refine so_putI 65 20 fr_X12_239_11 pf_11_20 fo_65_20 rfl sh_65 (s18 h1 h2 h3 v7 m7 p1 h4) dX12_speechText_128 ?_
          exact st_return rfl dX12_speechText_131 (mQv.ret (q3 h1 h2 h3 v7 m7 p1 h4))
    · have h2 : ¬ (0 ≤ ((hereM (lookM (mset (lookM mem) 65 3 (((lookM mem) 65 3) + 1)))) - 97) ∧ ((hereM (lookM (mset (lookM mem) 65 3 (((lookM mem) 65 3) + 1)))) - 97) ≤ 25) := h2
      refine st_aload_n (i := 0) rfl (t := 0) rfl (by decide) dX12_speechText_51 ?_
      refine st_callV (kc2 := 0) (ks2 := 0) (av := []) 65 11 mr_X12_140 ok_X12_bad (c_X12_bad (lookM (mset (lookM mem) 65 3 (((lookM mem) 65 3) + 1))) ) rfl sh_65 ⟨_, rfl, rfl, by decide⟩ rfl rfl hd1 (Nat.le_refl 0) (Nat.le_refl 0) (Nat.le_of_ble_eq_true rfl) dX12_speechText_52 (mQv.elim fun m9 hp => ?_)
      have hp := hp.symm
      subst hp
      exact st_return rfl dX12_speechText_55 (mQv.ret (q4 h1 h2))
  · have h1 : ¬ (0 ≤ ((hereM (lookM mem)) - 65) ∧ ((hereM (lookM mem)) - 65) ≤ 7) := h1
    refine st_aload_n (i := 0) rfl (t := 0) rfl (by decide) dX12_speechText_18 ?_
    refine st_callV (kc2 := 0) (ks2 := 0) (av := []) 65 11 mr_X12_140 ok_X12_bad (c_X12_bad (lookM mem) ) rfl sh_65 ⟨_, rfl, rfl, by decide⟩ rfl rfl hd1 (Nat.le_refl 0) (Nat.le_refl 0) (Nat.le_of_ble_eq_true rfl) dX12_speechText_19 (mQv.elim fun m10 hp => ?_)
    have hp := hp.symm
    subst hp
    exact st_return rfl dX12_speechText_22 (mQv.ret (q5 h1))
def mFr (mem m : mmM) : Prop := (∀ a, a ≠ 65 → a ≠ 76 → a ≠ 77 → a ≠ 78 → m a = mem a) ∧ (∀ j, j ≠ 3 → j ≠ 4 → j ≠ 20 → j ≠ 21 → m 65 j = mem 65 j)
theorem mFr_refl (mem : mmM) : mFr mem mem := ⟨fun _ _ _ _ _ => rfl, fun _ _ _ _ _ => rfl⟩
theorem mFr_trans {a b c : mmM} (h : mFr a b) (h' : mFr b c) : mFr a c := ⟨fun x x1 x2 x3 x4 => (h'.1 x x1 x2 x3 x4).trans (h.1 x x1 x2 x3 x4), fun j j1 j2 j3 j4 => (h'.2 j j1 j2 j3 j4).trans (h.2 j j1 j2 j3 j4)⟩
theorem mFr_65 (mem : mmM) {k v : Int} (h : k = 3 ∨ k = 4 ∨ k = 20 ∨ k = 21) : mFr mem (mset mem 65 k v) := ⟨fun _ x1 _ _ _ => mset_ne x1, fun j j1 j2 j3 j4 => by rw [mset_at, if_neg (by omega)]⟩
theorem mFr_row (mem : mmM) {a : Nat} (k v : Int) (h : a = 76 ∨ a = 77 ∨ a = 78) : mFr mem (mset mem a k v) := ⟨fun _ _ _ _ _ => mset_ne (by omega), fun _ _ _ _ _ => by rw [mset_ne (by omega)]⟩
theorem mFr_cu (mem : mmM) (j : Int) : mFr mem (cuM mem j) := mFr_65 mem (Or.inl rfl)
theorem mFr_w (mem : mmM) (j f : Int) : mFr mem (wM mem j f) := mFr_trans (mFr_cu mem j) (mFr_65 _ (Or.inr (Or.inl rfl)))
theorem wM_3 (mem : mmM) (j f : Int) : wM mem j f 65 3 = j := by
  unfold wM
  rw [mset_at, if_neg (by decide), cuM_at]
theorem wM_4 (mem : mmM) (j f : Int) : wM mem j f 65 4 = f := mset_same _ _ _ _
theorem wM_65 (mem : mmM) (j f : Int) {k : Int} (h3 : k ≠ 3) (h4 : k ≠ 4) : wM mem j f 65 k = mem 65 k := by
  unfold wM
  rw [mset_at, if_neg h4, cuM_65 _ _ h3]
theorem wM_ne (mem : mmM) (j f : Int) {a : Nat} (h : a ≠ 65) : wM mem j f a = mem a := by
  unfold wM
  rw [mset_ne h, cuM_ne _ _ h]
theorem lastM_w {mem : mmM} {j f : Int} (h : f ≠ -1) : lastM (wM mem j f) = wM mem j f := by
  unfold lastM
  rw [wM_4, if_neg h]
theorem lastM_cu {mem : mmM} (j : Int) (h : mem 65 4 = -1) : lastM (cuM mem j) = wM mem (j - 1) (j - 1) := by
  unfold lastM
  rw [cuM_65 _ _ (by decide), if_pos h, cuM_at, cuM_cu, badM_cu mem _ h]
/-- the rows of one more speech -/
def spRow (m : mmM) (i a w l : Int) : mmM := mset (mset (mset (mset m 76 i a) 77 i w) 78 i l) 65 20 (i + 1)
theorem spRow_65 (m : mmM) (i a w l : Int) {k : Int} (h : k ≠ 20) : spRow m i a w l 65 k = m 65 k := by
  unfold spRow
  rw [mset_at, if_neg h, mset_ne (by decide), mset_ne (by decide), mset_ne (by decide)]
theorem spRow_20 (m : mmM) (i a w l : Int) : spRow m i a w l 65 20 = i + 1 := mset_same _ _ _ _
theorem spRow_fr (m : mmM) (i a w l : Int) : mFr m (spRow m i a w l) := mFr_trans (mFr_trans (mFr_trans (mFr_row m _ _ (by omega)) (mFr_row _ _ _ (by omega))) (mFr_row _ _ _ (by omega))) (mFr_65 _ (by omega))
theorem spRow_76 (m : mmM) (i a w l : Int) : spRow m i a w l 76 = updF (m 76) i a := by
  unfold spRow
  rw [mset_ne (by decide), mset_ne (by decide), mset_ne (by decide), mset_updF]
theorem spRow_77 (m : mmM) (i a w l : Int) : spRow m i a w l 77 = updF (m 77) i w := by
  unfold spRow
  rw [mset_ne (by decide), mset_ne (by decide), mset_updF, mset_ne (by decide)]
theorem spRow_78 (m : mmM) (i a w l : Int) : spRow m i a w l 78 = updF (m 78) i l := by
  unfold spRow
  rw [mset_ne (by decide), mset_updF, mset_ne (by decide), mset_ne (by decide)]
def spM (mem : mmM) (i : Int) : Int ⊕ (Int × Int × Int × Int) → mmM → Prop
  | .inl f, m => m 65 4 = f ∧ 0 ≤ f ∧ mFr mem m ∧ (0 ≤ m 65 20 ∧ m 65 20 ≤ 24) ∧ (0 ≤ m 65 3 ∧ m 65 3 ≤ mem 65 2)
  | .inr (t, a, w, l), m => m 65 4 = -1 ∧ mFr mem m ∧ m 65 3 = t ∧ m 65 20 = i + 1 ∧ m 65 21 = mem 65 21 ∧ m 76 = updF (mem 76) i a ∧ m 77 = updF (mem 77) i w ∧ m 78 = updF (mem 78) i l
theorem numS_adv {C : Int → Int} {k : Nat} {j : Int} (h : ¬ (numS C (k + 1) j).1 = -1) : j < (numS C (k + 1) j).2 := by
  unfold numS at h ⊢
  by_cases q : digC (C j)
  · rw [if_pos q] at h ⊢
    have e : numF C (k + 1) 0 j = numF C k (0 * 10 + C j - 48) (j + 1) := if_pos q
    rw [e]
    have mono : ∀ (l : Nat) (v i : Int), i ≤ (numF C l v i).2 := by
      intro l
      induction l with
      | zero =>
        intro v i
        unfold numF
        split <;> exact Int.le_refl _
      | succ l ih =>
        intro v i
        unfold numF
        split
        · have := ih (v * 10 + C i - 48) (i + 1)
          omega
        · exact Int.le_refl _
    have := mono k (0 * 10 + C j - 48) (j + 1)
    omega
  · rw [if_neg q] at h
    exact absurd rfl h
theorem here_in (m : mmM) {j lo hi : Int} (h0 : 0 ≤ j) (hl : 0 < lo) : (0 ≤ hereM (cuM m j) - lo ∧ hereM (cuM m j) - lo ≤ hi) ↔ (lo ≤ CM m j ∧ CM m j ≤ lo + hi) := by
  rcases hereM_cu m h0 with q | q
  · rw [q.2]
    constructor <;> (intro z; omega)
  · rw [q.2.1, q.2.2]
    constructor <;> (intro z; omega)
theorem c_X12_speechText (mem : mmM) (hb : bytM mem) {j : Int} (h0 : 0 ≤ j) (h1 : j ≤ mem 65 2) (hw : mem 65 4 = -1) (hi : 0 ≤ mem 65 20 ∧ mem 65 20 < 24) : conv bX12_speechText 3 [(2, 65)] (cuM mem j) (spM mem (mem 65 20) (spS (CM mem) (SM mem) j)) := by
  have hn := hb.1
  obtain ⟨i, hi'⟩ : ∃ i, mem 65 20 = i := ⟨_, rfl⟩
  rw [hi'] at hi ⊢
  obtain ⟨p, hp⟩ : ∃ p, SM mem j = p := ⟨_, rfl⟩
  obtain ⟨q, hq⟩ : ∃ q, SM mem (p + 1) = q := ⟨_, rfl⟩
  obtain ⟨r, hr⟩ : ∃ r, SM mem (q + 1) = r := ⟨_, rfl⟩
  have hrr : SM mem r = r := by rw [← hr]; exact SM_sm _ _
  have gp := SM_ge mem j
  have lp := SM_le h1
  have gq := SM_ge mem (p + 1)
  have gr := SM_ge mem (q + 1)
  rw [hp] at gp lp
  rw [hq] at gq
  rw [hr] at gr
  have rp := CM_rng hb p
  have rq := CM_rng hb q
  have lt : ∀ z, 0 < CM mem z → z < mem 65 2 := fun z h => chT_in h
  have lq : 0 < CM mem p → q ≤ mem 65 2 := by
    intro z
    have := lt p z
    rw [← hq]
    exact SM_le (by omega)
  have lr : 0 < CM mem q → r ≤ mem 65 2 := by
    intro z
    have := lt q z
    rw [← hr]
    exact SM_le (by omega)
  have ip := here_in mem (j := p) (lo := 65) (hi := 7) (by omega) (by decide)
  have iq := here_in mem (j := q) (lo := 97) (hi := 25) (by omega) (by decide)
  have ir := hereM_dig mem (j := r) (by omega)
  have rgp := hereM_rng (cuM mem p) (bytM_cu hb p) (by rw [cuM_at]; omega)
  have bnd : ∀ z, 0 ≤ z → -1 ≤ hereM (cuM mem z) ∧ hereM (cuM mem z) ≤ 255 := by
    intro z z0
    have := CM_rng hb z
    rcases hereM_cu mem z0 with y | y
    · rw [y.2]
      omega
    · rw [y.2.1]
      omega
  have bp := bnd p (by omega)
  have bq := bnd q (by omega)
  obtain ⟨nm, hnm⟩ : ∃ nm, numS (CM mem) 2 r = nm := ⟨_, rfl⟩
  have nbq : 0 < CM mem q → r ≤ nm.2 ∧ nm.2 ≤ mem 65 2 ∧ (¬ nm.1 = -1 → r < nm.2) := by
    intro z
    have := numS_bnd (C := CM mem) (n := mem 65 2) (fun i h => lt i h) 2 r (lr z)
    rw [hnm] at this
    exact ⟨this.1, this.2.1, fun y => by
      have := numS_adv (C := CM mem) (k := 1) (j := r) (by rw [hnm]; exact y)
      rw [hnm] at this
      exact this⟩
  have nt := num2_top (CM mem) r
  rw [hnm] at nt
  have e1 : ¬ (65 ≤ CM mem p ∧ CM mem p ≤ 72) → spS (CM mem) (SM mem) j = .inl p := by
    intro z
    unfold spS
    rw [hp, if_pos z]
  have e2 : (65 ≤ CM mem p ∧ CM mem p ≤ 72) → ¬ (97 ≤ CM mem q ∧ CM mem q ≤ 122) → spS (CM mem) (SM mem) j = .inl q := by
    intro z z2
    unfold spS
    rw [hp, hq, if_neg (fun y => y z), if_pos z2]
  have e3 : (65 ≤ CM mem p ∧ CM mem p ≤ 72) → (97 ≤ CM mem q ∧ CM mem q ≤ 122) → spS (CM mem) (SM mem) j = if ¬ digC (CM mem r) then .inr (r, CM mem p - 65, CM mem q - 97, 5) else if nm.1 = -1 then .inl nm.2 else if nm.1 < 1 then .inl (nm.2 - 1) else .inr (nm.2, CM mem p - 65, CM mem q - 97, nm.1) := by
    intro z z2
    unfold spS
    rw [hp, hq, hr, if_neg (fun y => y z), if_neg (fun y => y z2), hnm]
  have k20 : ∀ z, cuM mem z 65 20 = i := fun z => by rw [cuM_65 _ _ (by decide), hi']
  have w20 : ∀ z f, wM mem z f 65 20 = i := fun z f => by rw [wM_65 _ _ _ (by decide) (by decide), hi']
  have good : ∀ t l, spM mem i (.inr (t, CM mem p - 65, CM mem q - 97, l)) (spRow (cuM mem t) i (CM mem p - 65) (CM mem q - 97) l) := by
    intro t l
    refine ⟨?_, mFr_trans (mFr_cu mem t) (spRow_fr _ _ _ _ _), ?_, spRow_20 _ _ _ _ _, ?_, ?_, ?_, ?_⟩
    · rw [spRow_65 _ _ _ _ _ (by decide), cuM_65 _ _ (by decide), hw]
    · rw [spRow_65 _ _ _ _ _ (by decide), cuM_at]
    · rw [spRow_65 _ _ _ _ _ (by decide), cuM_65 _ _ (by decide)]
    · rw [spRow_76, cuM_ne _ _ (by decide)]
    · rw [spRow_77, cuM_ne _ _ (by decide)]
    · rw [spRow_78, cuM_ne _ _ (by decide)]
  have badr : ∀ z f a w l, 0 ≤ f → (0 ≤ z ∧ z ≤ mem 65 2) → spM mem i (.inl f) (spRow (wM mem z f) i a w l) := by
    intro z f a w l f0 z0
    refine ⟨?_, f0, mFr_trans (mFr_w mem z f) (spRow_fr _ _ _ _ _), ?_, ?_⟩
    · rw [spRow_65 _ _ _ _ _ (by decide), wM_4]
    · rw [spRow_20]
      omega
    · rw [spRow_65 _ _ _ _ _ (by decide), wM_3]
      exact z0
  have badw : ∀ z f, 0 ≤ f → (0 ≤ z ∧ z ≤ mem 65 2) → spM mem i (.inl f) (wM mem z f) := by
    intro z f f0 z0
    refine ⟨wM_4 _ _ _, f0, mFr_w mem z f, ?_, ?_⟩
    · rw [w20]
      omega
    · rw [wM_3]
      exact z0
  refine cn_X12_speechText (bk_X12_speechText_0 (d1 := 2) (P1 := fun v m => (0 < CM mem q) ∧ numM mem nm v m) ?_ ?_ ?_ ?_ ?_ ?_ (s1 := ?_) (s2 := ?_) (s3 := ?_) (s4 := ?_) (s5 := ?_) (s6 := ?_) (s7 := ?_) (s8 := ?_) (s9 := ?_) (s10 := ?_) (s11 := ?_) (s12 := ?_) (s13 := ?_) (s14 := ?_) (s15 := ?_) (s16 := ?_) (s17 := ?_) (s18 := ?_)) <;> (try simp only [lookM_cu, cuM_at, cuM_mset, hp, hq, hr])
  · intro g g2 g3
    have g2 := iq.mp g2
    have := d_digits mem hb (j := r) (by omega) (lr (by omega)) hw
    rw [hrr, hnm] at this
    exact con.mono this (fun v m y => ⟨by omega, y⟩)
  · intro g g2 g3
    have vp := hereM_val (m := mem) (j := p) (by omega) (by have := ip.mp g; omega)
    have vq := hereM_val (m := mem) (j := q) (by omega) (by have := iq.mp g2; omega)
    rw [e3 (ip.mp g) (iq.mp g2), if_pos (fun y => g3 (ir.mpr y)), vp, vq, k20]
    exact good r 5
  · intro g g2 g3 v7 m7 w7 g7
    have vp := hereM_val (m := mem) (j := p) (by omega) (by have := ip.mp g; omega)
    have vq := hereM_val (m := mem) (j := q) (by omega) (by have := iq.mp g2; omega)
    have nq := nbq w7.1
    rw [e3 (ip.mp g) (iq.mp g2), if_neg (fun y => y (ir.mp g3)), vp, vq]
    rcases w7.2 with ⟨y1, rfl, rfl⟩ | ⟨y1, y2, a, ya, rfl⟩
    · rw [if_neg y1, if_neg (by omega), k20]
      exact good nm.2 nm.1
    · rw [if_pos y1, w20]
      exact badr a nm.2 _ _ _ (by omega) ya
  · intro g g2 g3 v7 m7 w7 g7
    have nq := nbq w7.1
    rw [e3 (ip.mp g) (iq.mp g2), if_neg (fun y => y (ir.mp g3))]
    rcases w7.2 with ⟨y1, rfl, rfl⟩ | ⟨y1, y2, a, ya, rfl⟩
    · have := nq.2.2 y1
      rw [if_neg y1, if_pos (by omega), lastM_cu _ hw, w20]
      exact badr (nm.2 - 1) (nm.2 - 1) _ _ _ (by omega) (by omega)
    · rw [if_pos y1, lastM_w (by omega), w20]
      exact badr a nm.2 _ _ _ (by omega) ya
  · intro g g2
    have gg := ip.mp g
    rw [e2 (ip.mp g) (fun y => g2 (iq.mpr y)), badM_cu mem _ hw]
    exact badw q q (by omega) ⟨by omega, lq (by omega)⟩
  · intro g
    rw [e1 (fun y => g (ip.mpr y)), badM_cu mem _ hw]
    exact badw p p (by omega) ⟨by omega, lp⟩
  · exact bytM_cu hb _
  · exact h0
  · exact ⟨by omega, by omega⟩
  · intro g
    exact ⟨by omega, by omega⟩
  · intro g
    exact bytM_cu hb _
  · intro g
    omega
  · intro g
    exact ⟨by omega, by omega⟩
  · intro g g2
    have := lq (by have := ip.mp g; omega)
    exact ⟨by omega, by omega⟩
  · intro g g2
    exact bytM_cu hb _
  · intro g g2
    omega
  · intro g g2 g3
    rw [k20]
    omega
  · intro g g2 g3
    rw [k20]
    exact ⟨by omega, by omega⟩
  · intro g g2 g3 v7 m7 w7
    rcases w7.2 with ⟨y1, rfl, rfl⟩ | ⟨y1, y2, a, ya, rfl⟩
    · exact ⟨by omega, by omega⟩
    · exact ⟨by omega, by omega⟩
  · intro g g2 g3 v7 m7 w7 _
    rcases w7.2 with ⟨y1, rfl, rfl⟩ | ⟨y1, y2, a, ya, rfl⟩
    · rw [k20]
      omega
    · rw [w20]
      omega
  · intro g g2 g3 v7 m7 w7 _
    rcases w7.2 with ⟨y1, rfl, rfl⟩ | ⟨y1, y2, a, ya, rfl⟩
    · rw [k20]
      exact ⟨by omega, by omega⟩
    · rw [w20]
      exact ⟨by omega, by omega⟩
  · intro g g2 g3 v7 m7 w7 _
    have nq := nbq w7.1
    rcases w7.2 with ⟨y1, rfl, rfl⟩ | ⟨y1, y2, a, ya, rfl⟩
    · rw [cuM_at]
      exact ⟨by omega, by omega⟩
    · rw [wM_3]
      exact ⟨by omega, by omega⟩
  · intro g g2 g3 v7 m7 w7 _
    have nq := nbq w7.1
    rcases w7.2 with ⟨y1, rfl, rfl⟩ | ⟨y1, y2, a, ya, rfl⟩
    · rw [lastM_cu _ hw, w20]
      omega
    · rw [lastM_w (by omega), w20]
      omega
  · intro g g2 g3 v7 m7 w7 _
    have nq := nbq w7.1
    rcases w7.2 with ⟨y1, rfl, rfl⟩ | ⟨y1, y2, a, ya, rfl⟩
    · rw [lastM_cu _ hw, w20]
      exact ⟨by omega, by omega⟩
    · rw [lastM_w (by omega), w20]
      exact ⟨by omega, by omega⟩
