/-! the model reads units, level by level -/
theorem open_no {mem : mmM} (hp : preM mem) (h6 : mem 65 5 = 6) {p : Int} (hp0 : mem 65 3 ≤ p) (hp1 : p < mem 65 2) : failM mem p 0 (opensM (cuM mem p)) := by
  obtain ⟨hb, hw, p3, p14, pc, pd⟩ := hp
  have e : opensM (cuM mem p) = stepM (wM mem p p) 1 := by
    unfold opensM
    rw [cuM_65 _ _ (by decide), if_pos h6, badM_cu mem _ hw]
  rw [e]
  have st : ∀ k, k ≠ 3 → k ≠ 5 → stepM (wM mem p p) 1 65 k = wM mem p p 65 k := fun k k3 k5 => by
    unfold stepM
    rw [mset_at, if_neg k3, mset_at, if_neg k5]
  have sn : ∀ a, a ≠ 65 → stepM (wM mem p p) 1 a = wM mem p p a := fun a ha => by
    unfold stepM
    rw [mset_ne ha, mset_ne ha]
  have s3 : stepM (wM mem p p) 1 65 3 = p + 1 := by
    unfold stepM
    rw [mset_same, wM_3]
  have s5 : stepM (wM mem p p) 1 65 5 = mem 65 5 + 1 := by
    unfold stepM
    rw [mset_at, if_neg (by decide), mset_same, wM_65 _ _ _ (by decide) (by decide)]
  have sc : codM (stepM (wM mem p p) 1) = codM mem := by
    show stepM (wM mem p p) 1 69 (stepM (wM mem p p) 1 65 14) = _
    rw [st 14 (by decide) (by decide), sn 69 (by decide), wM_65 _ _ _ (by decide) (by decide), wM_ne _ _ _ (by decide)]
    rfl
  refine ⟨by rw [st 4 (by decide) (by decide), wM_4], by omega, lmFr_trans (lmFr_trans (lmFr_cu mem p) (lmFr_65 _ (by omega))) (lmFr_trans (lmFr_65 _ (by omega)) (lmFr_65 _ (by omega))), ?_, ?_, ?_⟩
  · rw [s3]
    omega
  · rw [sc, s3]
    omega
  · rw [s5]
    omega
theorem open_yes {mem : mmM} (hw : mem 65 4 = -1) (h6 : ¬ mem 65 5 = 6) (p : Int) : nestM mem (p + 1) (opensM (cuM mem p)) := by
  have e : opensM (cuM mem p) = stepM (cuM mem p) 1 := by
    unfold opensM
    rw [cuM_65 _ _ (by decide), if_neg h6]
  rw [e]
  exact nestM_step hw p
theorem nest_pre {mem m1 : mmM} {s : Int} (hp : preM mem) (h6 : mem 65 5 ≤ 5) (hs : mem 65 3 ≤ s ∧ s ≤ mem 65 2) (h : nestM mem s m1) : preM m1 := by
  obtain ⟨hb, hw, p3, p14, pc, pd⟩ := hp
  obtain ⟨n4, nf, n3, n5, nc, -, -⟩ := h
  exact ⟨lmFr_B nf hb, n4, by rw [n3, lmFr_2 nf]; omega, by rw [lmFr_14 nf]; exact p14, by rw [nc, n3]; omega, by rw [n5]; omega⟩
theorem am_Unit (r : Nat) (hr : r ≤ 6) (d dU dC : Nat) (hd : 3 * r + 6 ≤ d ∧ dU ≤ d ∧ dC ≤ d) (hU : ∀ r', r = r' + 1 → ∀ m, preM m → m 65 5 = 6 - (r' : Int) → conv bX12_unit dU [(2, 65)] m (resM m (unitL (CM m) (SM m) r' (m 65 3)))) (hC : ∀ r', r = r' + 1 → ∀ m, preM m → m 65 5 = 6 - (r' : Int) → conv bX12_condition dC [(2, 65)] m (resM m (condO (CM m) (SM m) (unitL (CM m) (SM m) r') (m 65 3)))) (mem : mmM) (hp : preM mem) (h5 : mem 65 5 = 6 - (r : Int)) : conv bX12_unit (d + 1) [(2, 65)] mem (resM mem (unitL (CM mem) (SM mem) r (mem 65 3))) := by
  obtain ⟨hb, hw, p3, p14, pc, pd⟩ := id hp
  have hn := hb.1
  obtain ⟨p, hpp⟩ : ∃ p, SM mem (mem 65 3) = p := ⟨_, rfl⟩
  have hSp : SM mem p = p := by rw [← hpp]; exact SM_sm _ _
  have ge := SM_ge mem (mem 65 3)
  have le := SM_le (m := mem) (i := mem 65 3) p3.2
  rw [hpp] at ge le
  have lk : lookM mem = cuM mem p := by
    unfold lookM
    rw [hpp]
  have lt : ∀ z, 0 < CM mem z → z < mem 65 2 := fun z h => chT_in h
  have i33 := hereM_is mem (j := p) (c := 33) (by omega) (by decide)
  have i40 := hereM_is mem (j := p) (c := 40) (by omega) (by decide)
  obtain ⟨R, hR⟩ : ∃ R, unitL (CM mem) (SM mem) r (mem 65 3) = R := ⟨_, rfl⟩
  have eR : R = unitP (CM mem) (SM mem) (sumL (CM mem) (SM mem) r) (nestU (CM mem) (SM mem) r) p := by
    rw [← hR, unitL_eq]
    unfold unitP
    rw [hpp, hSp]
  unfold unitP at eR
  rw [hSp] at eR
  rw [hR]
  have base : doneM mem p [] (cuM mem p) := doneM_cu (doneM_nil mem hw) p
  have pre0 : preM (cuM mem p) := preM_cu (ts := []) hp (doneM_nil mem hw) (by show mem 65 3 + ((0 : Nat) : Int) ≤ p ∧ _; omega)
  have op4 : opensM (cuM mem p) 65 4 = -1 → p < mem 65 2 → ¬ r = 0 := by
    intro g l z
    have := open_no hp (by omega) ge l
    have := this.1
    omega
  have gU := fun r' => good_unitL (tapM_P mem) r'
  have e33 : CM mem p = 33 → ∀ r', r = r' + 1 → R = notP (unitL (CM mem) (SM mem) r' (p + 1)) := fun z r' e => by
    subst e
    rw [eR, if_pos z]
    rfl
  have e40 : CM mem p = 40 → ∀ r', r = r' + 1 → R = closeP (CM mem) (SM mem) 41 (condO (CM mem) (SM mem) (unitL (CM mem) (SM mem) r') (p + 1)) := fun z r' e => by
    subst e
    rw [eR, if_neg (by omega), if_pos z]
    rfl
  have e0 : (CM mem p = 33 ∨ CM mem p = 40) → r = 0 → R = .inl p := fun z e => by
    subst e
    rcases z with z | z
    · rw [eR, if_pos z]
      rfl
    · rw [eR, if_neg (by omega), if_pos z]
      rfl
  have bang : ∀ r' m8, r = r' + 1 → CM mem p = 33 → resM (opensM (cuM mem p)) (unitL (CM mem) (SM mem) r' (p + 1)) m8 → putOK m8 ∧ resM mem R (mset (putM m8 9 0) 65 5 (putM m8 9 0 65 5 - 1)) := by
    intro r' m8 e z w
    have l := lt p (by omega)
    have ns := open_yes hw (by omega) p
    have np := nest_pre hp (by omega) (show mem 65 3 ≤ p + 1 ∧ p + 1 ≤ mem 65 2 by omega) ns
    rw [e33 z r' e]
    cases hf : unitL (CM mem) (SM mem) r' (p + 1) with
    | inl f =>
      rw [hf] at w
      have ok := putOK_fail np w (by decide)
      exact ⟨ok, nest_decF ns (by omega) (failM_put w ok)⟩
    | inr x =>
      obtain ⟨q, ts⟩ := x
      rw [hf] at w
      have gd := (gU r' (p + 1) (by omega) (by omega)).2 q ts hf
      have ok := putOK_done np w (by omega)
      exact ⟨ok, nest_dec ns (doneM_put w ok)⟩
  have clo : ∀ r' m5, r = r' + 1 → CM mem p = 40 → resM (opensM (cuM mem p)) (condO (CM mem) (SM mem) (unitL (CM mem) (SM mem) r') (p + 1)) m5 → clOK m5 ∧ resM mem R (closM m5 41) := by
    intro r' m5 e z w
    have l := lt p (by omega)
    have ns := open_yes hw (by omega) p
    have gd := good_cond (tapM_P mem) (gU r') (p + 1) (by omega) (by omega)
    rw [e40 z r' e]
    refine ⟨?_, clos_res hp (by omega) (by decide) ns gd w⟩
    obtain ⟨n4, nf, n3, n5, nc, -, -⟩ := ns
    cases hf : condO (CM mem) (SM mem) (unitL (CM mem) (SM mem) r') (p + 1) with
    | inl f =>
      rw [hf] at w
      obtain ⟨a1, a2, a3, a4, a5, a6⟩ := w
      rw [n3, n5, lmFr_2 nf] at a4
      rw [n5] at a6
      exact ⟨fun z => by omega, by omega, by omega⟩
    | inr x =>
      obtain ⟨q, ts⟩ := x
      rw [hf] at w
      have gd2 := gd.2 q ts hf
      obtain ⟨a1, a2, a3, a4, -, -, -⟩ := w
      exact ⟨fun _ => lmFr_B a2 (lmFr_B nf hb), by omega, by omega⟩
  refine cn_X12_unit (bk_X12_unit_0 (d1 := 3 * r + 5) (d2 := 3 * r + 6) (d3 := dC) (d4 := dU) (P1 := fun m => ¬ CM mem p = 33 ∧ ¬ CM mem p = 40 ∧ resM (cuM mem p) (sumL (CM mem) (SM mem) r p) m) (P2 := resM mem R) (P3 := fun m => ∃ r', r = r' + 1 ∧ CM mem p = 40 ∧ resM (opensM (cuM mem p)) (condO (CM mem) (SM mem) (unitL (CM mem) (SM mem) r') (p + 1)) m) (P4 := fun m => ∃ r', r = r' + 1 ∧ CM mem p = 33 ∧ resM (opensM (cuM mem p)) (unitL (CM mem) (SM mem) r' (p + 1)) m) ?_ ?_ ?_ ?_ ?_ ?_ ?_ ?_ ?_ ?_ (s1 := hb) (s2 := p3.1) (s3 := ?_) (s4 := ?_) (s5 := ?_) (s6 := ?_) (s7 := ?_)) <;> (try rw [lk])
  · intro g g2
    have := c_X12_sum r hr (cuM mem p) pre0 (by rw [cuM_65 _ _ (by decide), h5])
    rw [CM_cu, SM_cu, cuM_at] at this
    exact conv.mono this (fun m w => ⟨fun z => g (i33.mpr z), fun z => g2 (i40.mpr z), w⟩)
  · intro _ _ m2 w2 g4
    obtain ⟨z, z2, w⟩ := w2
    cases hf : sumL (CM mem) (SM mem) r p with
    | inl f =>
      rw [hf] at w
      have := w.1
      have := w.2.1
      omega
    | inr x =>
      obtain ⟨q, ts⟩ := x
      rw [hf] at w
      have gd := (good_sum (tapM_P mem) r p (by omega) le).2 q ts hf
      have w3 := doneM_app base w
      have e : R = cmpP (CM mem) (SM mem) (sumL (CM mem) (SM mem) r) q ts := by
        rw [eR, if_neg z, if_neg z2, hf]
      rw [e]
      exact am_Cmp r hr mem hp h5 m2 q ts w3 ⟨by omega, by omega, by omega⟩
  · intro g g2 g4
    have z := i40.mp g2
    have l := lt p (by omega)
    have r0 := op4 g4 l
    have ns := open_yes hw (by omega) p
    have np := nest_pre hp (by omega) (show mem 65 3 ≤ p + 1 ∧ p + 1 ≤ mem 65 2 by omega) ns
    obtain ⟨n4, nf, n3, n5, nc, -, -⟩ := ns
    have := hC (r - 1) (by omega) _ np (by rw [n5, h5]; omega)
    rw [lmFr_C nf, lmFr_S nf, n3] at this
    exact conv.mono this (fun m w => ⟨r - 1, by omega, z, w⟩)
  · intro g g4
    have z := i33.mp g
    have l := lt p (by omega)
    have r0 := op4 g4 l
    have ns := open_yes hw (by omega) p
    have np := nest_pre hp (by omega) (show mem 65 3 ≤ p + 1 ∧ p + 1 ≤ mem 65 2 by omega) ns
    obtain ⟨n4, nf, n3, n5, nc, -, -⟩ := ns
    have := hU (r - 1) (by omega) _ np (by rw [n5, h5]; omega)
    rw [lmFr_C nf, lmFr_S nf, n3] at this
    exact conv.mono this (fun m w => ⟨r - 1, by omega, z, w⟩)
  · intro _ _ m2 w2 g4
    obtain ⟨z, z2, w⟩ := w2
    cases hf : sumL (CM mem) (SM mem) r p with
    | inl f =>
      rw [hf] at w
      have e : R = .inl f := by
        rw [eR, if_neg z, if_neg z2, hf]
      rw [e]
      exact failM_app (k := 0) (doneM_nil mem hw) (by show ((0 : Nat) : Int) + 0 ≤ _; omega) ge w
    | inr x =>
      obtain ⟨q, ts⟩ := x
      rw [hf] at w
      exact absurd w.1 g4
  · intro _ _ m2 w2 g4 m3 w3
    exact w3
  · intro g g2 g4
    have z := i40.mp g2
    have l := lt p (by omega)
    by_cases r0 : r = 0
    · rw [e0 (Or.inr z) r0]
      exact open_no hp (by omega) ge l
    · exact absurd (open_yes hw (by omega) p).1 g4
  · intro g g2 g4 m5 w5
    obtain ⟨r', e, z, w⟩ := w5
    exact (clo r' m5 e z w).2
  · intro g g4
    have z := i33.mp g
    have l := lt p (by omega)
    by_cases r0 : r = 0
    · rw [e0 (Or.inl z) r0]
      exact open_no hp (by omega) ge l
    · exact absurd (open_yes hw (by omega) p).1 g4
  · intro g g4 m8 w8
    obtain ⟨r', e, z, w⟩ := w8
    exact (bang r' m8 e z w).2
  · intro _ _
    exact ⟨by rw [cuM_65 _ _ (by decide)]; omega, by rw [cuM_at]; omega⟩
  · intro _ _ _ m5 w5
    obtain ⟨r', e, z, w⟩ := w5
    exact (clo r' m5 e z w).1
  · intro _
    exact ⟨by rw [cuM_65 _ _ (by decide)]; omega, by rw [cuM_at]; omega⟩
  · intro _ _ m8 w8
    obtain ⟨r', e, z, w⟩ := w8
    exact (bang r' m8 e z w).1
  · intro _ _ m8 w8
    obtain ⟨r', e, z, w⟩ := w8
    have ok := (bang r' m8 e z w).1
    rw [putM_65]
    have l := lt p (by omega)
    have ns := open_yes hw (by omega) p
    obtain ⟨n4, nf, n3, n5, nc, -, -⟩ := ns
    cases hf : unitL (CM mem) (SM mem) r' (p + 1) with
    | inl f =>
      rw [hf] at w
      have := w.2.2.2.2.2
      exact ⟨by omega, by omega⟩
    | inr x =>
      obtain ⟨q, ts⟩ := x
      rw [hf] at w
      have := w.2.2.2.1
      exact ⟨by omega, by omega⟩
theorem c_X12_unit : ∀ (r : Nat), r ≤ 6 → ∀ (mem : mmM), preM mem → mem 65 5 = 6 - (r : Int) → conv bX12_unit (4 * r + 7) [(2, 65)] mem (resM mem (unitL (CM mem) (SM mem) r (mem 65 3))) := by
  intro r
  induction r with
  | zero =>
    intro hr mem hp h5
    exact am_Unit 0 hr 6 0 0 (by decide) (fun r' e => by cases e) (fun r' e => by cases e) mem hp h5
  | succ r ih =>
    intro hr mem hp h5
    have ihr := ih (by omega)
    have C := fun m hm h5 => am_Cond (fun m => unitL (CM m) (SM m) r) (6 - (r : Int)) (4 * r + 7) (by omega) ihr (fun mem m h => by show unitL _ _ r = unitL _ _ r; rw [lmFr_C h, lmFr_S h]) (fun m _ => good_unitL (tapM_P m) r) m hm h5
    refine am_Unit (r + 1) hr (4 * r + 10) (4 * r + 7) (4 * r + 7 + 3) (by omega) (fun r' e m hm hz => ?_) (fun r' e m hm hz => ?_) mem hp h5
    · have e' : r' = r := by omega
      subst e'
      exact ihr m hm hz
    · have e' : r' = r := by omega
      subst e'
      exact C m hm hz
