/-! the model reads a law -/
theorem good_beh {C S : Int → Int} {n q : Int} (ht : tapP C S n) (q0 : 0 ≤ q) (q1 : q ≤ n) (ts : List tokT) : (∀ e, behP C S q ts = .inl e → 0 ≤ e ∧ e ≤ n) ∧ ∀ t us vs, behP C S q ts = .inr (t, us, vs) → us = ts ∧ q < t ∧ t ≤ n ∧ (vs.length : Int) ≤ t - q := by
  have ge := ht.2.1 q
  have le := ht.2.2.1 q q1
  unfold behP
  by_cases z : C (S q) = 63
  · rw [if_neg (fun y => y z)]
    have l := ht.1 (S q) (by omega)
    have g := good_sum ht 6 (S q + 1) (by omega) (by omega)
    cases hf : sumL C S 6 (S q + 1) with
    | inl f =>
      refine ⟨fun e h => ?_, fun t us vs h => (by cases h)⟩
      cases h
      exact g.1 _ hf
    | inr x =>
      obtain ⟨t, xs⟩ := x
      have g2 := g.2 t xs hf
      refine ⟨fun e h => (by cases h), fun t' us vs h => ?_⟩
      cases h
      exact ⟨rfl, by omega, by omega, by omega⟩
  · rw [if_pos z]
    refine ⟨fun e h => ?_, fun t us vs h => (by cases h)⟩
    cases h
    omega
theorem good_clause {C S : Int → Int} {n j : Int} (ht : tapP C S n) (j0 : 0 ≤ j) (j1 : j ≤ n) : (∀ e, clauseP C S j = .inl e → 0 ≤ e ∧ e ≤ n) ∧ ∀ q ts us, clauseP C S j = .inr (q, ts, us) → j < q ∧ q ≤ n ∧ (ts.length : Int) + us.length + 2 ≤ q - j := by
  have ge := ht.2.1 j
  have le := ht.2.2.1 j j1
  have bnd : ∀ (p : Int) (R : PR), 0 ≤ p → j + 2 ≤ p → gdR n p R → (∀ e, bindP R (behP C S) = .inl e → 0 ≤ e ∧ e ≤ n) ∧ ∀ q ts us, bindP R (behP C S) = .inr (q, ts, us) → j < q ∧ q ≤ n ∧ (ts.length : Int) + us.length + 2 ≤ q - j := by
    intro p R p0 p1 g
    cases R with
    | inl f =>
      refine ⟨fun e h => ?_, fun t us vs h => (by cases h)⟩
      cases h
      exact g.1 _ rfl
    | inr x =>
      obtain ⟨q, ts⟩ := x
      have g2 := g.2 q ts rfl
      have b := good_beh ht (q := q) (by omega) (by omega) ts
      refine ⟨fun e h => b.1 e h, fun t us vs h => ?_⟩
      obtain ⟨b1, b2, b3, b4⟩ := b.2 t us vs h
      subst b1
      exact ⟨by omega, by omega, by omega⟩
  by_cases z : C (S j) = 121
  · have l := ht.1 (S j) (by omega)
    have ge2 := ht.2.1 (S j + 1)
    have le2 := ht.2.2.1 (S j + 1) (by omega)
    by_cases z2 : C (S (S j + 1)) = 58
    · have l2 := ht.1 (S (S j + 1)) (by omega)
      have ge3 := ht.2.1 (S (S j + 1) + 1)
      have le3 := ht.2.2.1 (S (S j + 1) + 1) (by omega)
      by_cases z3 : C (S (S (S j + 1) + 1)) = 33 ∨ C (S (S (S j + 1) + 1)) = 40
      · rw [clauseP_c z z2 z3]
        exact bnd _ _ (by omega) (by omega) (good_cond ht (good_unitL ht 6) _ (by omega) le3)
      · rw [clauseP_s z z2 z3]
        have gs := good_sum ht 6 (S (S (S j + 1) + 1)) (by omega) le3
        obtain ⟨p, hp⟩ : ∃ p, S (S (S j + 1) + 1) = p := ⟨_, rfl⟩
        rw [hp] at gs ge3 le3 ⊢
        cases hf : sumL C S 6 p with
        | inl f =>
          refine ⟨fun e h => ?_, fun t us vs h => (by cases h)⟩
          cases h
          exact gs.1 _ hf
        | inr x =>
          obtain ⟨q, ts⟩ := x
          have g2 := gs.2 q ts hf
          have gq := ht.2.1 q
          have lq := ht.2.2.1 q g2.2.1
          show (∀ e, (if opC (C (S q)) = none then (.inr (S q, [], ts) : Int ⊕ (Int × List tokT × List tokT)) else bindP (preT ts (cond1 C S 6 1 q)) (behP C S)) = .inl e → _) ∧ ∀ t us vs, (if opC (C (S q)) = none then (.inr (S q, [], ts) : Int ⊕ (Int × List tokT × List tokT)) else bindP (preT ts (cond1 C S 6 1 q)) (behP C S)) = .inr (t, us, vs) → _
          by_cases ho : opC (C (S q)) = none
          · rw [if_pos ho]
            refine ⟨fun e h => (by cases h), fun t us vs h => ?_⟩
            cases h
            exact ⟨by omega, by omega, by show ((0 : Nat) : Int) + _ + 2 ≤ _; omega⟩
          · rw [if_neg ho]
            have ec : cond1 C S 6 1 q = goP C S opO (truthO C S (unitL C S 6)) (goP C S opA (unitL C S 6) (cmpP C S (sumL C S 6) q [])) := rfl
            rw [ec, ← goP_pre, ← goP_pre, ← cmpP_pre]
            have gU6 := good_unitL ht 6
            have gc := gd_cmp ht (good_sum ht 6) (ts := ts) (i := p) (q := q) (by omega) g2
            have gA := good_go ht (fun _ _ h => (opA_pos h).1) gU6 (j := p) (by omega) gc
            have gT : goodP n (truthO C S (unitL C S 6)) := good_chain ht (fun _ _ h => (opA_pos h).1) gU6
            have gO := good_go ht (fun _ _ h => (opO_pos h).1) gT (j := p) (by omega) gA
            exact bnd _ _ (by omega) (by omega) gO
    · rw [clauseP_2 z z2]
      refine ⟨fun e h => ?_, fun t us vs h => (by cases h)⟩
      cases h
      omega
  · rw [clauseP_1 z]
    refine ⟨fun e h => ?_, fun t us vs h => (by cases h)⟩
    cases h
    omega
theorem good_law {C S : Int → Int} {n : Int} (ht : tapP C S n) : ∀ (k : Nat) (j : Int), 0 ≤ j → j ≤ n → ∀ e, lawP C S k j = .inl e → 0 ≤ e ∧ e ≤ n := by
  intro k
  induction k with
  | zero =>
    intro j _ _ e h
    cases h
  | succ k ih =>
    intro j j0 j1 e h
    have g := good_clause ht j0 j1
    cases hc : clauseP C S j with
    | inl f =>
      rw [lawP_bad hc] at h
      cases h
      exact g.1 _ hc
    | inr x =>
      obtain ⟨q, ts, us⟩ := x
      have g2 := g.2 q ts us hc
      have gq := ht.2.1 q
      have lq := ht.2.2.1 q g2.2.1
      by_cases z : C (S q) = 59
      · have l := ht.1 (S q) (by omega)
        rw [lawP_go hc z] at h
        cases hl : lawP C S k (S q + 1) with
        | inl f =>
          rw [hl] at h
          cases h
          exact ih (S q + 1) (by omega) (by omega) _ hl
        | inr cl =>
          rw [hl] at h
          cases h
      · rw [lawP_end hc z] at h
        by_cases z0 : C (S q) = 0
        · rw [if_pos z0] at h
          cases h
        · rw [if_neg z0] at h
          cases h
          omega
