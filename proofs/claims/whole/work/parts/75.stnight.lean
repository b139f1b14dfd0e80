/-! steps of the law: a night -/
theorem ntStep_far (fg : Int → Int → Int) (tk to : Int → Int) (mk : Int) (s : ntT) {j : Int} (h : ¬ j = s.2.1) : (ntStep fg tk to mk s).2.2.2.2.2 j = s.2.2.2.2.2 j := by
  unfold ntStep
  split
  · split
    · exact if_neg h
    · exact if_neg h
  · rfl
theorem ntSt_far {n : Int} {fg : Int → Int → Int} {tk to : Int → Int} {mk seed : Int} {j : Int} (hj : n ≤ j) : ∀ k : Nat, (∀ i, i < k → ntAlive n fg tk to mk seed i) → (ntSt fg tk to mk seed k).2.2.2.2.2 j = 0 := by
  intro k
  induction k with
  | zero => exact fun _ => rfl
  | succ k ih =>
    intro h
    have a := (h k (by omega)).2.1
    show (ntStep fg tk to mk (ntSt fg tk to mk seed k)).2.2.2.2.2 j = 0
    rw [ntStep_far _ _ _ _ _ (by omega)]
    exact ih (fun i hi => h i (by omega))
theorem ntFin_far {n : Int} {fg : Int → Int → Int} {tk to : Int → Int} {mk seed : Int} {j : Int} (hj : n ≤ j) {k : Nat} (h : ∀ i, i < k → ntAlive n fg tk to mk seed i) : (ntFin n fg tk to mk seed k).2.2.2.2.2 j = 0 := by
  unfold ntFin
  by_cases q : ntOut n fg tk to mk seed k = 1
  · rw [if_pos q]
    have hc : (ntSt fg tk to mk seed k).2.1 < n := by
      unfold ntOut at q
      by_cases z : n ≤ (ntSt fg tk to mk seed k).2.1
      · rw [if_pos z] at q
        omega
      · omega
    show (ntStep fg tk to mk (ntSt fg tk to mk seed k)).2.2.2.2.2 j = 0
    rw [ntStep_far _ _ _ _ _ (by omega)]
    exact ntSt_far hj k h
  · rw [if_neg q]
    exact ntSt_far hj k h
section
variable {sc : Int → Int} {ls : Nat → lawT} {t : Int} {mem m m1 m2 : mmM}
theorem forgF_hi (hm : ∀ a, 65 ≤ a → m1 a = mem a) (cl : lawT) : forgF m1 cl = forgF mem cl := by
  funext s
  unfold forgF
  rw [letM_of (fun a ha => hm a (by omega)) (by rw [hm 65 (by decide)]), hm 65 (by decide)]
theorem forg_hi (w : Inv sc ls t mem) (hm : ∀ a, 65 ≤ a → m1 a = mem a) : forgM m1 (forgF mem (heldL ls mem)) := by
  rw [← forgF_hi hm]
  refine forgM_law m1 _ (w.playHi hm) ?_ ?_
  · rw [hm 65 (by decide)]
    have := w.h28
    omega
  · rw [hm 65 (by decide), hm 70 (by decide)]
    intro g
    have r := w.heldR g
    exact ⟨lawR_same (fun a ha => hm a (by omega)) r.2.2 r.1, r.2⟩
theorem iImage_more (w : iImage t m) (h0 : 0 ≤ t) : iImage (t + 1) m := ⟨w.1, fun z => ⟨(w.2 z).1, fun i i0 i1 => by
  have := (w.2 z).2 i i0 i1
  exact ⟨by omega, this.2⟩⟩⟩
theorem keepX_ne {a : Nat} (h : a ≠ 47) (h2 : a ≠ 48) : keepX mem a = mem a := by
  unfold keepX
  rw [rowTo_ne _ _ _ h2, mset_ne h]
theorem nightM_ne {n : Int} {a : Nat} (h : a ≠ 65) (h2 : a ≠ 85) (h3 : a ≠ 87) : nightM n mem a = mem a := by
  unfold nightM
  rw [mset_ne h, mset_ne h, mset_ne h3, mset_ne h3, mset_ne h3, mset_ne h3, mset_ne h3, rowTo_ne _ _ _ h2]
theorem st_night (w : Inv sc ls t mem) (ht : 0 ≤ t ∧ t ≤ 1000) (x : Int) (hx : R64 x) : stp 0 bX11_night 6 [(2, 0), (1, x)] bX12_night 11 [(2, 65), (1, x)] mem (Inv sc ls (t + 1)) := by
  obtain ⟨n1, n2, n3, n4⟩ := id w.notes
  have hi0 : ∀ mx, ntXP_52 mem (mem 47 0) x mx → ∀ a, a ≠ 52 → a ≠ 53 → a ≠ 54 → mx a = mem a := by
    intro mx q a a1 a2 a3
    obtain ⟨k, -, ⟨f, -⟩, -⟩ := q
    exact f a a1 a3 a2
  have hi : ∀ v1 m1, ((mem 23 1 = 0 ∧ v1 = -1 ∧ m1 = mem) ∨ (¬ mem 23 1 = 0 ∧ ∃ mx, ntXP_52 mem (mem 47 0) x mx ∧ m1 = keepX mx ∧ v1 = mx 52 5)) → ∀ a, 65 ≤ a → m1 a = mem a := by
    intro v1 m1 q a ha
    rcases q with ⟨-, -, q⟩ | ⟨-, mx, q, f, -⟩
    · rw [q]
    · rw [f, keepX_ne (by omega) (by omega)]
      exact hi0 mx q a (by omega) (by omega) (by omega)
  refine stp_of (c3 := fun v1 m1 q => hi v1 m1 q 999 (by decide)) (c_X11_night mem x hx w.nightP ⟨by omega, by omega⟩ (by omega) (fun i i0 i1 => by have := (n4 i i0 i1).1; omega)) (fun v1 m1 q => c_X12_night m1 (forgF mem (heldL ls mem)) x (w.playHi (hi v1 m1 q)) (fun a a0 a1 => by rw [hi v1 m1 q 84 (by decide)]; exact w.takeM a a0 a1) (forg_hi w (hi v1 m1 q)) hx (by rw [hi v1 m1 q 65 (by decide), n3.2.1]; omega) (fun i i0 i1 => by rw [hi v1 m1 q 85 (by decide)]; have := (n4 i i0 i1).2.1; omega)) (fun v1 m1 v2 m2 q1 q2 => ?_)
  have h := hi v1 m1 q1
  rw [h 65 (by decide)] at q2
  rcases q1 with ⟨g, e1, f1⟩ | ⟨g, mx, qx, f1, e1⟩
  · rcases q2 with ⟨-, e2, f2⟩ | ⟨g2, -⟩
    · refine ⟨e1.trans e2.symm, ?_⟩
      rw [f2, f1]
      exact Inv_more w ht.1
    · rw [w.size] at g
      exact absurd g g2
  · rcases q2 with ⟨g2, -⟩ | ⟨-, mm, qm, f2, e2⟩
    · rw [w.size] at g
      exact absurd g2 g
    · have hx0 := hi0 mx qx
      obtain ⟨k, x1, ⟨x2, x3, x4⟩, ⟨x5, x6, x7, x8, x9⟩, x10⟩ := qx
      obtain ⟨k', y1, y2, y3, ⟨y4, y5, y6, y7, y8⟩, y9, y10⟩ := qm
      have el : leapM m1 = leapM mem := leapM_congr (by rw [h 65 (by decide)]) (h 79 (by decide)) (h 80 (by decide)) (h 83 (by decide))
      have et : tkM m1 = tkM mem := by
        funext s
        show m1 84 (m1 79 s) = mem 84 (mem 79 s)
        rw [h 84 (by decide), h 79 (by decide)]
      rw [el, et, h 65 (by decide), w.marks] at y1 y4 y5 y6 y7 y8 y9 y10
      rw [h 81 (by decide)] at y9
      rw [w.size] at x1 x5 x6 x7 x8 x9 x10
      obtain ⟨c1, c2, c3, c4, -⟩ := ntEnd_congr (fg' := fgM (forgF mem (heldL ls mem))) (tk' := tkM mem) (to' := leapM mem) (len := mem 26) (len' := mem 81) w.n.1 w.leapB (fun s s0 s1 => by
        show forgetsX mem s (bitN (mem 47 0) s) = forgF mem (heldL ls mem) s
        rw [forgF_per, w.marks, w.forgets ⟨s0, s1⟩]) (fun s s0 s1 => (w.takes ⟨s0, s1⟩).1) w.leapE w.e26 x1
      have ek : k = k' := ntEnd_unique c1 y1
      subst ek
      rw [c3] at y4 y5 y6 y7 y8 y9
      rw [c4] at y9
      rw [c2] at y10
      have k200 := ntEnd_200 x1
      have cnt := ntFin_cnt (mem 65 27) (forgetsX mem) (takeX mem) (mem 38) (mem 47 0) x k
      have far : ∀ j, mem 65 27 ≤ j → (ntFin (mem 65 27) (forgetsX mem) (takeX mem) (mem 38) (mem 47 0) x k).2.2.2.2.2 j = 0 := fun j hj => ntFin_far hj x1.1
      obtain ⟨T, hT⟩ : ∃ T, ntFin (mem 65 27) (forgetsX mem) (takeX mem) (mem 38) (mem 47 0) x k = T := ⟨_, rfl⟩
      rw [hT] at x5 x6 x7 x8 x9 y4 y5 y6 y7 y8 y9 cnt far
      refine ⟨by rw [e1, e2, x10, y10], ?_⟩
      have hm0 : ∀ a, a ≠ 65 → a ≠ 74 → a ≠ 75 → a ≠ 86 → a ≠ 88 → mm a = m1 a := y2.1
      have hm5 : ∀ j, j < 36 ∨ 43 < j → mm 65 j = mem 65 j := fun j hj => by rw [y2.2 j hj, h 65 (by decide)]
      have k2 : ∀ a, a ≠ 65 → a ≠ 85 → a ≠ 87 → a ≠ 74 → a ≠ 75 → a ≠ 86 → a ≠ 88 → m2 a = m1 a := fun a a1 a2 a3 a4 a5 a6 a7 => by rw [f2, nightM_ne a1 a2 a3, hm0 a a1 a4 a5 a6 a7]
      have k1 : ∀ a, a ≠ 47 → a ≠ 48 → a ≠ 52 → a ≠ 53 → a ≠ 54 → m1 a = mem a := fun a a1 a2 a3 a4 a5 => by rw [f1, keepX_ne a1 a2, hx0 a a3 a4 a5]
      have k47 : ∀ j, j ≠ 2 → m2 47 j = mem 47 j := fun j hj => by
        rw [k2 47 (by decide) (by decide) (by decide) (by decide) (by decide) (by decide) (by decide), f1]
        unfold keepX
        rw [rowTo_ne _ _ _ (by decide), mset_at, if_neg hj, hx0 47 (by decide) (by decide) (by decide)]
      have z47 : m2 47 2 = mem 47 2 + 1 := by
        rw [k2 47 (by decide) (by decide) (by decide) (by decide) (by decide) (by decide) (by decide), f1]
        unfold keepX
        rw [rowTo_ne _ _ _ (by decide), mset_same, hx0 47 (by decide) (by decide) (by decide)]
      have z48 : ∀ i, 0 ≤ i → i < 24 → m2 48 i = mem 48 i + T.2.2.2.2.2 i := fun i i0 i1 => by
        rw [k2 48 (by decide) (by decide) (by decide) (by decide) (by decide) (by decide) (by decide), f1]
        unfold keepX
        rw [rowTo_in _ _ _ ⟨i0, i1⟩, hx0 48 (by decide) (by decide) (by decide), x9 i i0 i1]
      have z52 : m2 52 = mx 52 := by rw [k2 52 (by decide) (by decide) (by decide) (by decide) (by decide) (by decide) (by decide), f1, keepX_ne (by decide) (by decide)]
      have k65 : ∀ j, j ≠ 34 → j ≠ 45 → (j < 36 ∨ 43 < j) → m2 65 j = mem 65 j := fun j j1 j2 j3 => by
        rw [f2]
        unfold nightM
        rw [mset_at, if_neg j1, mset_at, if_neg j2, mset_ne (by decide), mset_ne (by decide), mset_ne (by decide), mset_ne (by decide), mset_ne (by decide), rowTo_ne _ _ _ (by decide)]
        exact hm5 j j3
      have z34 : m2 65 34 = mem 65 34 + 1 := by
        rw [f2]
        unfold nightM
        rw [mset_same, hm5 34 (by omega)]
      have z45 : m2 65 45 = 1 := by
        rw [f2]
        unfold nightM
        rw [mset_at, if_neg (by decide), mset_same]
      have z85 : ∀ i, 0 ≤ i → i < mem 65 27 → m2 85 i = mem 85 i + T.2.2.2.2.2 i := fun i i0 i1 => by
        rw [f2]
        unfold nightM
        rw [mset_ne (by decide), mset_ne (by decide), mset_ne (by decide), mset_ne (by decide), mset_ne (by decide), mset_ne (by decide), mset_ne (by decide), rowTo_in _ _ _ ⟨i0, i1⟩, hm0 85 (by decide) (by decide) (by decide) (by decide) (by decide), h 85 (by decide), y8 i i0 i1]
      have o85 : ∀ i, mem 65 27 ≤ i → m2 85 i = mem 85 i := fun i i0 => by
        rw [f2]
        unfold nightM
        rw [mset_ne (by decide), mset_ne (by decide), mset_ne (by decide), mset_ne (by decide), mset_ne (by decide), mset_ne (by decide), mset_ne (by decide), rowTo_out _ _ _ (by omega), hm0 85 (by decide) (by decide) (by decide) (by decide) (by decide), h 85 (by decide)]
      have k3 : ∀ a, a ≠ 47 → a ≠ 48 → a ≠ 52 → a ≠ 53 → a ≠ 54 → a ≠ 65 → a ≠ 85 → a ≠ 87 → a ≠ 74 → a ≠ 75 → a ≠ 86 → a ≠ 88 → m2 a = mem a := fun a a1 a2 a3 a4 a5 a6 a7 a8 a9 b1 b2 b3 => (k2 a a6 a7 a8 a9 b1 b2 b3).trans (k1 a a1 a2 a3 a4 a5)
      refine Inv_notes w (fun a a1 a2 a3 a4 a5 a6 a7 a8 a9 => k3 a a1 a2 a4 (by unfold keepC at a9; omega) (by unfold keepC at a9; omega) a5 a6 a7 (by unfold keepC at a9; omega) (by unfold keepC at a9; omega) (by unfold keepC at a9; omega) (by unfold keepC at a9; omega)) (by rw [k3 1 (by decide) (by decide) (by decide) (by decide) (by decide) (by decide) (by decide) (by decide) (by decide) (by decide) (by decide) (by decide)]) (fun j hj => k65 j (by omega) (by omega) (by omega)) (⟨odOr_of (k3 58 (by decide) (by decide) (by decide) (by decide) (by decide) (by decide) (by decide) (by decide) (by decide) (by decide) (by decide) (by decide)) w.odd, (k3 999 (by decide) (by decide) (by decide) (by decide) (by decide) (by decide) (by decide) (by decide) (by decide) (by decide) (by decide) (by decide)).trans w.scr⟩) ?_ (iImage_more (iImage_of (fun j hj => k47 j (by omega)) (fun j hj => k65 j (by omega) (by omega) (by omega)) (k3 49 (by decide) (by decide) (by decide) (by decide) (by decide) (by decide) (by decide) (by decide) (by decide) (by decide) (by decide) (by decide)) (k3 98 (by decide) (by decide) (by decide) (by decide) (by decide) (by decide) (by decide) (by decide) (by decide) (by decide) (by decide) (by decide)) w.image) ht.1) ?_
      · unfold iNotes
        rw [k47 0 (by decide), k47 1 (by decide), z47, z34, z45, k65 27 (by decide) (by decide) (by omega), k65 31 (by decide) (by decide) (by omega), k65 32 (by decide) (by decide) (by omega)]
        refine ⟨n1, n2, ⟨by omega, by omega, ⟨fun z => absurd z (by decide), fun z => by omega⟩⟩, fun i i0 i1 => ?_⟩
        have q := n4 i i0 i1
        have c := cnt i
        rw [z48 i i0 i1]
        refine ⟨by omega, ?_, fun z => by rw [z85 i i0 z, q.2.2.1 z], fun z => by rw [q.2.2.2 z, far i z]; rfl⟩
        by_cases z : i < mem 65 27
        · rw [z85 i i0 z]
          omega
        · rw [o85 i (by omega)]
          omega
      · unfold iLast
        rw [z52]
        intro _
        rw [f2]
        unfold nightM
        refine ⟨?_, ?_, ?_, ?_, ?_⟩
        · rw [mset_ne (by decide), mset_ne (by decide), mset_at, if_neg (by decide), mset_at, if_neg (by decide), mset_at, if_neg (by decide), mset_at, if_neg (by decide), mset_same, y3, x3]
        · rw [mset_ne (by decide), mset_ne (by decide), mset_at, if_neg (by decide), mset_at, if_neg (by decide), mset_at, if_neg (by decide), mset_same, y5, x6]
        · rw [mset_ne (by decide), mset_ne (by decide), mset_at, if_neg (by decide), mset_at, if_neg (by decide), mset_same, y6, x7]
        · rw [mset_ne (by decide), mset_ne (by decide), mset_at, if_neg (by decide), mset_same, y9, x4, x7]
        · rw [mset_ne (by decide), mset_ne (by decide), mset_same, y7, x8]
end
