/-! steps of the law: a book's text taken -/
section
variable {sc : Int → Int} {ls : Nat → lawT} {t : Int} {mem m m1 m2 : mmM}
theorem cutK_0 {v : Int} (hv : 0 ≤ v ∧ v < 16777216) {i : Int} (i0 : 0 ≤ i) (i1 : i < 24) : cutK v i = 0 ↔ tb v i = false := by
  have b := bit_tb (x := v) (k := i) hv.1 (by omega) i0 (by omega)
  unfold cutK
  by_cases q : and32 (shr32 v i) 1 = 1
  · rw [if_pos q, b.mp q]
    exact ⟨fun z => absurd z (by decide), fun z => absurd z (by decide)⟩
  · rw [if_neg q]
    exact ⟨fun _ => Bool.eq_false_iff.mpr (fun z => q (b.mpr z)), fun _ => rfl⟩
theorem bcS_zero : bcS 0 = 0 := by
  rw [bcS_popw (by decide) (by decide)]
  rfl
theorem text_book {c : Int} {A W L K : Int → Int} {mr mq : mmM} (w : Inv sc ls t mem) (h0 : 0 ≤ t) (e : bookS (CX mem) (SX mem) (mem 4) (mem 5) (mem 6) (cut0 mem) = .inr (c, A, W, L, K)) (hr : bookX mem (.inr (c, A, W, L, K)) (-1) mr) (tx : tookX mr (heldL ls mem) m1) (hq : bookM m1 (.inr (c, A, W, L, K)) (-1) mq) (tm : tookP (mset mq 65 2 0) m2) : (keptS (mr 7) (mr 3 5).toNat).1 = (keptS (cutK (mq 65 21)) (mq 65 20).toNat).1 ∧ Inv sc ls t m2 := by
  obtain ⟨hc, hs⟩ := book_r w.bytX e
  obtain ⟨-, frr, r5, r4, rw5, r6, r7⟩ := hr
  obtain ⟨ma, mb, ⟨⟨a1, a2, a3, a4, a5⟩, a6⟩, hd, fx⟩ := tx
  obtain ⟨-, frq, q20, qr, q21, qk⟩ := hq
  obtain ⟨m0, ⟨t1, t2, t3, t4, t5, t6, t7⟩, f2⟩ := tm
  have s : ∀ a, a ≠ 1 → mset mr 1 1 0 a = mr a := fun a ha => mset_ne ha
  have un : ∀ a, a ≠ 65 → mset mq 65 2 0 a = mq a := fun a ha => mset_ne ha
  have u20 : mset mq 65 2 0 65 20 = c := by rw [mset_at, if_neg (by decide), q20]
  have u21 : mset mq 65 2 0 65 21 = mq 65 21 := by rw [mset_at, if_neg (by decide)]
  have kc : keptS (cutK (mq 65 21)) c.toNat = keptS K c.toNat := keptS_congr (fun i i0 i1 => (cutK_0 q21 i0 (by omega)).trans (qk i i0 (by omega)).symm)
  rw [s 3 (by decide), s 7 (by decide), r5, r7] at a3 a4 a5
  rw [s 3 (by decide), r5] at a2
  rw [s 4 (by decide), s 5 (by decide), s 6 (by decide), r4, rw5, r6] at a4
  rw [u20, u21, kc] at t4 t5 t6 t7
  rw [u20] at t3
  rw [un 76 (by decide), un 77 (by decide), un 78 (by decide)] at t5
  rw [un 79 (by decide), un 80 (by decide), un 81 (by decide), un 85 (by decide)] at t7
  refine ⟨by rw [r5, r7, q20, kc], ?_⟩
  have rg := keptS_rng K c.toNat
  have pls := keptS_place K c.toNat
  obtain ⟨n, hn⟩ : ∃ n, (keptS K c.toNat).1 = n := ⟨_, rfl⟩
  obtain ⟨pl, hpl⟩ : ∃ pl, (keptS K c.toNat).2 = pl := ⟨_, rfl⟩
  rw [hn] at a3 a4 a5 t4 t5 t6 t7 rg pls
  rw [hpl] at a4 t5 pls
  have n24 : 0 ≤ n ∧ n ≤ 24 := by omega
  obtain ⟨h1, h2, h3, h4, h5, h6⟩ := id hd
  have z : ∀ a, a ≠ 65 → m2 a = m0 a := fun a ha => by rw [f2, mset_ne ha, mset_ne ha, mset_ne ha, mset_ne ha, mset_ne ha]
  have zq : ∀ a, a ≠ 65 → a ≠ 76 → a ≠ 77 → a ≠ 78 → a ≠ 79 → a ≠ 80 → a ≠ 81 → a ≠ 82 → a ≠ 85 → m2 a = m1 a := fun a b1 b2 b3 b4 b5 b6 b7 b8 b9 => by rw [z a b1, t1 a b1 b5 b6 b7 b8 b9, un a b1, frq.1 a b1 b2 b3 b4]
  have xb : ∀ a, a ≠ 38 → a ≠ 47 → a ≠ 48 → m1 a = mb a := fun a b1 b2 b3 => by rw [fx, clearX_else _ b2 b3, planX_else _ b1]
  have xa : ∀ a, (a < 11 ∨ 22 < a) → a ≠ 0 → a ≠ 31 → a ≠ 32 → mb a = ma a := h1
  have xr : ∀ a, (a < 23 ∨ 30 < a) → a ≠ 1 → a ≠ 3 → a ≠ 4 → a ≠ 5 → a ≠ 6 → a ≠ 7 → ma a = mem a := fun a b1 b2 b3 b4 b5 b6 b7 => by rw [a1 a b1, s a b2, frr.1 a b2 b3 b4 b5 b6 b7]
  have mX : ∀ a, (a = 2 ∨ (32 < a ∧ a ≠ 38 ∧ a ≠ 47 ∧ a ≠ 48)) → m1 a = mem a := fun a b => by rw [xb a (by omega) (by omega) (by omega), xa a (by omega) (by omega) (by omega) (by omega), xr a (by omega) (by omega) (by omega) (by omega) (by omega) (by omega) (by omega)]
  have kk : ∀ a, (a = 2 ∨ (32 < a ∧ a ≠ 38 ∧ a ≠ 47 ∧ a ≠ 48)) → a ≠ 65 → a ≠ 76 → a ≠ 77 → a ≠ 78 → a ≠ 79 → a ≠ 80 → a ≠ 81 → a ≠ 82 → a ≠ 85 → m2 a = mem a := fun a b b1 b2 b3 b4 b5 b6 b7 b8 b9 => (zq a b1 b2 b3 b4 b5 b6 b7 b8 b9).trans (mX a b)
  have k : ∀ a, (a = 2 ∨ a = 36 ∨ a = 37 ∨ a = 49 ∨ a = 52 ∨ a = 58 ∨ a = 999 ∨ (66 ≤ a ∧ a ≤ 73) ∨ a = 83 ∨ a = 84 ∨ a = 87 ∨ a = 98) → m2 a = mem a := fun a b => kk a (by omega) (by omega) (by omega) (by omega) (by omega) (by omega) (by omega) (by omega) (by omega) (by omega)
  have p : ∀ a, (23 ≤ a ∧ a ≤ 30) → m2 a = ma a := fun a b => by rw [zq a (by omega) (by omega) (by omega) (by omega) (by omega) (by omega) (by omega) (by omega) (by omega), xb a (by omega) (by omega) (by omega), xa a (by omega) (by omega) (by omega) (by omega)]
  have m65 : ∀ j, j ≠ 2 → j ≠ 3 → j ≠ 4 → j ≠ 20 → j ≠ 21 → j ≠ 26 → j ≠ 27 → m0 65 j = mem 65 j := fun j b1 b2 b3 b4 b5 b6 b7 => by rw [t2 j b6 b7, mset_at, if_neg b1, frq.2 j b2 b3 b4 b5, mX 65 (by omega)]
  have k65 : ∀ j, j ≠ 2 → j ≠ 3 → j ≠ 4 → j ≠ 20 → j ≠ 21 → j ≠ 26 → j ≠ 27 → j ≠ 31 → j ≠ 32 → j ≠ 34 → j ≠ 45 → j ≠ 58 → m2 65 j = mem 65 j := fun j b1 b2 b3 b4 b5 b6 b7 c1 c2 c3 c4 c5 => by rw [f2, mset_at, if_neg c4, mset_at, if_neg c5, mset_at, if_neg c2, mset_at, if_neg c3, mset_at, if_neg c1, m65 j b1 b2 b3 b4 b5 b6 b7]
  have j13 : m2 65 13 = mem 65 13 := k65 13 (by decide) (by decide) (by decide) (by decide) (by decide) (by decide) (by decide) (by decide) (by decide) (by decide) (by decide) (by decide)
  have j28 : m2 65 28 = mem 65 28 := k65 28 (by decide) (by decide) (by decide) (by decide) (by decide) (by decide) (by decide) (by decide) (by decide) (by decide) (by decide) (by decide)
  have o65 : ∀ j, j ≠ 31 → j ≠ 32 → j ≠ 34 → j ≠ 45 → j ≠ 58 → m2 65 j = m0 65 j := fun j c1 c2 c3 c4 c5 => by rw [f2, mset_at, if_neg c4, mset_at, if_neg c5, mset_at, if_neg c2, mset_at, if_neg c3, mset_at, if_neg c1]
  have j27 : m2 65 27 = n := by rw [o65 27 (by decide) (by decide) (by decide) (by decide) (by decide), t4]
  have j26 : m2 65 26 = c := by rw [o65 26 (by decide) (by decide) (by decide) (by decide) (by decide), t3]
  have j2 : m2 65 2 = 0 := by rw [o65 2 (by decide) (by decide) (by decide) (by decide) (by decide), t2 2 (by decide) (by decide), mset_same]
  have j31 : m2 65 31 = 0 := by rw [f2, mset_at, if_neg (by decide), mset_at, if_neg (by decide), mset_at, if_neg (by decide), mset_at, if_neg (by decide), mset_same]
  have j34 : m2 65 34 = 0 := by rw [f2, mset_at, if_neg (by decide), mset_at, if_neg (by decide), mset_at, if_neg (by decide), mset_same]
  have j32 : m2 65 32 = 0 := by rw [f2, mset_at, if_neg (by decide), mset_at, if_neg (by decide), mset_same]
  have j58 : m2 65 58 = 0 := by rw [f2, mset_at, if_neg (by decide), mset_same]
  have j45 : m2 65 45 = 0 := by rw [f2, mset_same]
  have z0 : m2 0 = mb 0 := by rw [zq 0 (by decide) (by decide) (by decide) (by decide) (by decide) (by decide) (by decide) (by decide) (by decide), xb 0 (by decide) (by decide) (by decide)]
  have z11 : m2 0 11 = mem 0 11 := by rw [z0, h2 11 (by decide), xr 0 (by omega) (by decide) (by decide) (by decide) (by decide) (by decide) (by decide)]
  have er : mr 0 12 = mem 0 12 := by rw [frr.1 0 (by decide) (by decide) (by decide) (by decide) (by decide) (by decide)]
  have z12 : m2 0 12 = mem 0 12 := by rw [z0, h3, er]
  have z1 : m2 1 1 = 0 := by rw [zq 1 (by decide) (by decide) (by decide) (by decide) (by decide) (by decide) (by decide) (by decide) (by decide), xb 1 (by decide) (by decide) (by decide), xa 1 (by omega) (by decide) (by decide) (by decide), a1 1 (by omega), mset_same]
  have e47 : m2 47 = m1 47 := zq 47 (by decide) (by decide) (by decide) (by decide) (by decide) (by decide) (by decide) (by decide) (by decide)
  have c0 : m2 47 0 = 0 := by
    rw [e47, fx]
    unfold clearX
    rw [mrow_ne (by decide), mset_at, if_neg (by decide), mset_at, if_neg (by decide), mset_at, if_neg (by decide), mset_same]
  have c1 : m2 47 1 = 0 := by
    rw [e47, fx]
    unfold clearX
    rw [mrow_ne (by decide), mset_at, if_neg (by decide), mset_at, if_neg (by decide), mset_same]
  have c2 : m2 47 2 = 0 := by
    rw [e47, fx]
    unfold clearX
    rw [mrow_ne (by decide), mset_at, if_neg (by decide), mset_same]
  have c4 : m2 47 4 = 0 := by
    rw [e47, fx]
    unfold clearX
    rw [mrow_ne (by decide), mset_same]
  have c48 : ∀ i, 0 ≤ i → i < 24 → m2 48 i = 0 := fun i i0 i1 => by
    rw [zq 48 (by decide) (by decide) (by decide) (by decide) (by decide) (by decide) (by decide) (by decide) (by decide), fx]
    unfold clearX
    rw [mrow_same, if_pos ⟨i0, i1⟩]
  have R : ∀ i, 0 ≤ i → i < n → (m2 24 i = A (pl i) ∧ m2 25 i = W (pl i) ∧ m2 26 i = L (pl i) ∧ m2 27 i = pl i) ∧ (m2 79 i = A (pl i) ∧ m2 80 i = W (pl i) ∧ m2 81 i = L (pl i) ∧ m2 82 i = pl i) := by
    intro i i0 i1
    have x := a4 i i0 i1
    have y := t5 i i0 i1
    have pp := pls i i0 i1
    have rr := qr (pl i) pp.1 (by omega)
    rw [p 24 (by omega), p 25 (by omega), p 26 (by omega), p 27 (by omega), z 79 (by decide), z 80 (by decide), z 81 (by decide), z 82 (by decide)]
    rw [rr.1, rr.2.1, rr.2.2] at y
    exact ⟨x, y⟩
  have e24 : ∀ i, 0 ≤ i → i < n → m2 24 i = m2 79 i := fun i i0 i1 => (R i i0 i1).1.1.trans (R i i0 i1).2.1.symm
  have e25 : ∀ i, 0 ≤ i → i < n → m2 25 i = m2 80 i := fun i i0 i1 => (R i i0 i1).1.2.1.trans (R i i0 i1).2.2.1.symm
  have e26 : ∀ i, 0 ≤ i → i < n → m2 26 i = m2 81 i := fun i i0 i1 => (R i i0 i1).1.2.2.1.trans (R i i0 i1).2.2.2.1.symm
  have e27 : ∀ i, 0 ≤ i → i < n → m2 27 i = m2 82 i := fun i i0 i1 => (R i i0 i1).1.2.2.2.trans (R i i0 i1).2.2.2.2.symm
  have e28 : ∀ i, 0 ≤ i → i < n → m2 28 i = cueF (m2 80) i := fun i i0 i1 => by
    rw [p 28 (by omega), (a5 i i0 i1).1, ← p 25 (by omega)]
    exact cueF_congr e25 i0 (by omega)
  have e29 : ∀ i, 0 ≤ i → i < n → m2 29 i = gapF (m2 79) i := fun i i0 i1 => by
    rw [p 29 (by omega), (a5 i i0 i1).2, ← p 24 (by omega)]
    exact gapF_congr i0 (fun j j0 j1 => e24 j j0 (by omega))
  have e30 : ∀ i, 0 ≤ i → i < n → m2 30 i = likesF n (m2 79) (cueF (m2 80)) i := fun i i0 i1 => by
    rw [p 30 (by omega), a6 i i0 (by rw [a3]; exact i1), a3, ← p 24 (by omega), ← p 28 (by omega)]
    exact likesF_congr e24 e28 i
  have old : ∀ i, n ≤ i → m2 79 i = mem 79 i ∧ m2 80 i = mem 80 i ∧ m2 81 i = mem 81 i ∧ m2 85 i = mem 85 i := by
    intro i hi
    have v := t7 i hi
    rw [frq.1 79 (by decide) (by decide) (by decide) (by decide), frq.1 80 (by decide) (by decide) (by decide) (by decide), frq.1 81 (by decide) (by decide) (by decide) (by decide), frq.1 85 (by decide) (by decide) (by decide) (by decide), mX 79 (by omega), mX 80 (by omega), mX 81 (by omega), mX 85 (by omega)] at v
    rw [z 79 (by decide), z 80 (by decide), z 81 (by decide), z 85 (by decide)]
    exact v
  have rng : ∀ i, 0 ≤ i → i < n → (0 ≤ m2 79 i ∧ m2 79 i < 8) ∧ (0 ≤ m2 80 i ∧ m2 80 i < 26) ∧ (1 ≤ m2 81 i ∧ m2 81 i ≤ 99) := by
    intro i i0 i1
    have pp := pls i i0 i1
    have v := hs (pl i) pp.1 (by omega)
    have rr := (R i i0 i1).2
    rw [rr.1, rr.2.1, rr.2.2.1]
    exact v
  have pM : playM m2 := by
    refine ⟨by rw [j27]; exact n24, fun i i0 i1 => ?_⟩
    by_cases q : i < n
    · have v := rng i i0 q
      exact ⟨v.1, v.2.1, by omega, by omega⟩
    · have v := old i (by omega)
      rw [v.1, v.2.1, v.2.2.1]
      exact w.play.2 i i0 i1
  obtain ⟨i1, i2, i3, i4, i5⟩ := id w.2.1
  obtain ⟨s1, s2, s3, s4⟩ := id w.1
  obtain ⟨l1, l2⟩ := id w.2.2.2.1
  refine ⟨?_, iLaws_of (fun j hj => ?_) (fun k' hk' => ?_) (fun j hj => ?_) (fun a ha => k a (by omega)) w.2.1, ⟨pM, by rw [j27, p 23 (by omega), a3], by rw [j26, p 23 (by omega), a2], fun i i0 i1 => ?_⟩, ⟨fun a b0 b1 => ?_, fun i i0 i1 => ?_⟩, fun i i0 i1 => ?_, ?_, ?_, ?_, ⟨odOr_of (k 58 (by omega)) w.odd, (k 999 (by omega)).trans w.scr⟩⟩
  · unfold iTape
    rw [z1, j2, k 66 (by omega), k 2 (by omega)]
    exact ⟨⟨by decide, by decide⟩, rfl, s3, fun i i0 i1 => ⟨(s4 i i0 i1).1, (s4 i i0 i1).2.1, fun z => by omega⟩⟩
  · rcases hj with hj | hj
    · rw [hj, z11]
    · rw [hj, z12]
  · have hl := hold_law hd (k := k') (by omega)
    have g : ∀ a, 11 ≤ a → a ≤ 21 → m2 a = mb a ∧ ma a = mem a := fun a b1 b2 => ⟨by rw [zq a (by omega) (by omega) (by omega) (by omega) (by omega) (by omega) (by omega) (by omega) (by omega), xb a (by omega) (by omega) (by omega)], xr a (by omega) (by omega) (by omega) (by omega) (by omega) (by omega) (by omega)⟩
    have g1 := g (11 + 3 * k') (by omega) (by omega)
    have g2 := g (12 + 3 * k') (by omega) (by omega)
    rw [g1.1, g2.1, hl.1, hl.2, g1.2, g2.2]
    exact ⟨rfl, rfl⟩
  · rcases hj with hj | hj
    · rw [hj, j13]
    · rw [hj, j28]
  · rw [j27] at i1 ⊢
    exact ⟨⟨e24 i i0 i1, e25 i i0 i1, e26 i i0 i1, e27 i i0 i1⟩, (rng i i0 i1).2.2.1, e28 i i0 i1, e29 i i0 i1, e30 i i0 i1⟩
  · rw [k 36 (by omega), k 37 (by omega), k 83 (by omega), k 84 (by omega)]
    exact l1 a b0 b1
  · rw [j27] at i1
    have e38 : m2 38 i = leapF (mb 36 (mb 24 i)) (mb 23 1) (mb 24) (mb 28) i := by
      rw [zq 38 (by decide) (by decide) (by decide) (by decide) (by decide) (by decide) (by decide) (by decide) (by decide), fx, clearX_else _ (by decide) (by decide)]
      unfold planX
      rw [rowTo_in _ _ _ ⟨i0, by rw [xa 23 (by omega) (by decide) (by decide) (by decide), a3]; exact i1⟩]
    have m36 : mb 36 = mem 36 := by rw [xa 36 (by omega) (by decide) (by decide) (by decide), xr 36 (by omega) (by decide) (by decide) (by decide) (by decide) (by decide) (by decide)]
    have b24 : mb 24 = m2 24 := by rw [xa 24 (by omega) (by decide) (by decide) (by decide), p 24 (by omega)]
    have b28 : mb 28 = m2 28 := by rw [xa 28 (by omega) (by decide) (by decide) (by decide), p 28 (by omega)]
    have b23 : mb 23 1 = n := by rw [xa 23 (by omega) (by decide) (by decide) (by decide), a3]
    have lm : leapM m2 i = leapF (mem 83 (m2 79 i)) n (m2 79) (cueF (m2 80)) i := by
      unfold leapM
      rw [k 83 (by omega), j27]
    have rn := (rng i i0 i1).1
    rw [e38, m36, b24, b28, b23, lm, e24 i i0 i1, (l1 _ rn.1 rn.2).1]
    exact leapF_congr e24 e28 i
  · rw [j27] at i1
    have v := h6 i i0 (by rw [a3]; exact i1)
    have le : ∀ b, (b = 0 ∨ b = 1) → (fun k => letterX ma (leF k) i b) = letM m2 i b := fun b hb => let_eq a3 ⟨i0, i1⟩ (by rw [← p 24 (by omega)]; exact e24 i i0 i1) (by rw [← p 26 (by omega)]; exact e26 i i0 i1) (by rw [← p 29 (by omega)]; exact e29 i i0 i1) (by rw [← p 30 (by omega), j27]; exact e30 i i0 i1) hb
    have g31 : m2 31 = mb 31 := by rw [zq 31 (by decide) (by decide) (by decide) (by decide) (by decide) (by decide) (by decide) (by decide) (by decide), xb 31 (by decide) (by decide) (by decide)]
    have g32 : m2 32 = mb 32 := by rw [zq 32 (by decide) (by decide) (by decide) (by decide) (by decide) (by decide) (by decide) (by decide) (by decide), xb 32 (by decide) (by decide) (by decide)]
    rw [g31, g32, v.1, v.2, er, ← i4]
    exact ⟨per_eq (n := n) j28 (fun _ => rfl) (le 0 (Or.inl rfl)), per_eq (n := n) j28 (fun _ => rfl) (le 1 (Or.inr rfl))⟩
  · unfold iNotes
    rw [c0, c1, c2, j31, j32, j34, j45, j27, bcS_zero]
    refine ⟨⟨⟨by decide, by decide⟩, rfl⟩, ⟨⟨by decide, by decide⟩, rfl, by decide⟩, ⟨⟨by decide, h0⟩, rfl, Iff.rfl⟩, fun i i0 i1 => ?_⟩
    rw [c48 i i0 i1]
    refine ⟨by omega, ?_, fun q => ?_, fun _ => rfl⟩
    · by_cases q : i < n
      · rw [z 85 (by decide), t6 i i0 q]
        omega
      · rw [(old i (by omega)).2.2.2]
        exact (w.notes.2.2.2 i i0 i1).2.1
    · rw [z 85 (by decide), t6 i i0 q]
  · unfold iImage
    rw [c4, j58]
    exact ⟨Iff.rfl, fun q => absurd rfl q⟩
  · unfold iLast
    rw [c2]
    exact fun q => absurd rfl q
theorem textX_hi {cl : lawT} {x v : Int} (h : textX mem cl x v m1) (h11 : 0 ≤ mem 0 11 ∧ mem 0 11 ≤ 4) : ∀ a, 65 ≤ a → m1 a = mem a := by
  intro a ha
  rcases h with ⟨-, ⟨f, -, -, h⟩ | ⟨c, A, W, L, K, mr, -, hr, -, tx⟩⟩ | ⟨-, ⟨-, -, h⟩ | ⟨-, f, -, -, h⟩ | ⟨hk4, cl', mr, k, -, hr, hk, -, hp⟩⟩ | ⟨-, -, -, h⟩
  · exact h.1 a (by omega) (by omega) (by omega) (by omega) (by omega) (by omega)
  · obtain ⟨-, frr, -⟩ := hr
    obtain ⟨ma, mb, ⟨⟨a1, -⟩, -⟩, ⟨h1, -⟩, fx⟩ := tx
    rw [fx, clearX_else _ (by omega) (by omega), planX_else _ (by omega), h1 a (by omega) (by omega) (by omega) (by omega), a1 a (by omega), mset_ne (by omega), frr.1 a (by omega) (by omega) (by omega) (by omega) (by omega) (by omega)]
  · rw [h]
  · exact h.1 a (by omega) (by omega) (by omega)
  · obtain ⟨-, ⟨x1, -⟩, -⟩ := hr
    rw [hp.1 a (by omega) (by omega) (by omega) (by omega), x1 a (by omega) (by omega) (by omega)]
  · rw [h]
theorem st_text (w : Inv sc ls t mem) (h0 : 0 ≤ t) (x : Int) (hx : R32 x) : stp 0 bX11_text 37 [(2, 0), (0, x)] bX12_text 37 [(2, 65), (0, x)] mem (fun m => ∃ ls', Inv sc ls' t m) := by
  obtain ⟨i1, i2, i3, i4, i5⟩ := id w.2.1
  have hi : ∀ v1 m1, textX mem (heldL ls mem) x v1 m1 → ∀ a, 65 ≤ a → m1 a = mem a := fun v1 m1 q => textX_hi q i1
  have bM : ∀ m1, (∀ a, 65 ≤ a → m1 a = mem a) → bytM m1 ∧ posM m1 := by
    intro m1 h
    unfold bytM posM
    rw [h 65 (by decide), h 66 (by decide)]
    exact ⟨w.bytM, w.posM⟩
  refine stp_of (c3 := fun v1 m1 q => hi v1 m1 q 999 (by decide)) (c_X11_text mem x (heldL ls mem) hx w.bytX w.lawsX i1) (fun v1 m1 q => c_X12_text m1 x hx (bM m1 (hi v1 m1 q)).1 (bM m1 (hi v1 m1 q)).2 (mem 4) (mem 5) (mem 6) (cut0 mem) (cut0_0 mem) (by rw [hi v1 m1 q 65 (by decide), i2]; exact i1)) (fun v1 m1 v2 m2 q1 q2 => ?_)
  have h := hi v1 m1 q1
  have eC : CM m1 = CX mem := by
    rw [← w.CE]
    unfold CM
    rw [h 65 (by decide), h 66 (by decide)]
  have eS : SM m1 = SX mem := by
    rw [← w.SE]
    unfold SM
    rw [h 65 (by decide), h 66 (by decide)]
  have e13 : m1 65 13 = mem 0 11 := by rw [h 65 (by decide), i2]
  unfold textM at q2
  rw [eC, eS, e13] at q2
  rcases q1 with ⟨z, ⟨f, e, e1, f1⟩ | ⟨c, A, W, L, K, mr, e, hr, e1, tx⟩⟩ | ⟨z, ⟨z4, e1, f1⟩ | ⟨z4, f, e, e1, f1⟩ | ⟨z4, cl', mr, k, e, hr, hk, e1, hp⟩⟩ | ⟨z, z', e1, f1⟩
  · rcases q2 with ⟨-, ⟨f', e', e2, f2⟩ | ⟨c, A, W, L, K, mq, e', -⟩⟩ | ⟨y, -⟩ | ⟨y, -⟩
    · exact ⟨e1.trans e2.symm, ls, Inv_same (same_mf f2) (Inv_same (same_rd f1) w)⟩
    · rw [e] at e'
      cases e'
    · omega
    · exact absurd z y
  · rcases q2 with ⟨-, ⟨f', e', -⟩ | ⟨c', A', W', L', K', mq, e', hq, e2, tm⟩⟩ | ⟨y, -⟩ | ⟨y, -⟩
    · rw [e] at e'
      cases e'
    · rw [e] at e'
      cases e'
      have tb := text_book w h0 e hr tx hq tm
      exact ⟨by rw [e1, e2, tb.1], ls, tb.2⟩
    · omega
    · exact absurd z y
  · rcases q2 with ⟨y, -⟩ | ⟨-, ⟨-, e2, f2⟩ | ⟨y4, -⟩ | ⟨y4, -⟩⟩ | ⟨-, y, -⟩
    · omega
    · exact ⟨e1.trans e2.symm, ls, by rw [f2, f1]; exact w⟩
    · omega
    · omega
    · exact absurd z y
  · have w1 := Inv_same (same_lx f1) w
    rcases q2 with ⟨y, -⟩ | ⟨-, ⟨y4, -⟩ | ⟨-, f', e', e2, f2⟩ | ⟨-, cl2, mq, e', -⟩⟩ | ⟨-, y, -⟩
    · omega
    · omega
    · exact ⟨e1.trans e2.symm, ls, Inv_rl f2 w1 (by rw [← e13, ← w1.2.1.2.1]; exact Int.le_refl _)⟩
    · rw [e] at e'
      cases e'
    · exact absurd z y
  · rcases q2 with ⟨y, -⟩ | ⟨-, ⟨y4, -⟩ | ⟨-, f', e', -⟩ | ⟨-, cl2, mq, e', hq, e2, f2⟩⟩ | ⟨-, y, -⟩
    · omega
    · omega
    · rw [e] at e'
      cases e'
    · rw [e] at e'
      cases e'
      rw [hk] at hq e2 f2
      exact ⟨e1.trans e2.symm, _, text_law w hk z4 hr hp hq f2⟩
    · exact absurd z y
  · rcases q2 with ⟨y, -⟩ | ⟨y, -⟩ | ⟨-, -, e2, f2⟩
    · exact absurd y z
    · exact absurd y z'
    · exact ⟨e1.trans e2.symm, ls, by rw [f2, f1]; exact w⟩
end
