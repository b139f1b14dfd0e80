/-! steps of the law: feed, end, set, a night -/
section
variable {sc : Int → Int} {ls : Nat → lawT} {t : Int} {mem m m1 m2 : mmM}
theorem Inv_tape (w : Inv sc ls t mem) (hc : ∀ a, a ≠ 1 → a ≠ 2 → a ≠ 65 → a ≠ 66 → m a = mem a) (h65 : ∀ j, j ≠ 2 → m 65 j = mem 65 j) (it : iTape m) : Inv sc ls t m := by
  obtain ⟨-, w2, w3, w4, w5, w6, w7, w8, w9⟩ := w
  exact ⟨it, iLaws_of (fun j _ => by rw [hc 0 (by decide) (by decide) (by decide) (by decide)]) (fun k hk => ⟨by rw [hc (11 + 3 * k) (by omega) (by omega) (by have := w2.1; omega) (by have := w2.1; omega)], hc (12 + 3 * k) (by omega) (by omega) (by have := w2.1; omega) (by have := w2.1; omega)⟩) (fun j hj => h65 j (by omega)) (fun a ha => hc a (by omega) (by omega) (by omega) (by omega)) w2, iPlay_of (fun a ha => hc a (by omega) (by omega) (by omega) (by omega)) ⟨h65 26 (by decide), h65 27 (by decide)⟩ w3, iLeap_of (fun a ha => hc a (by omega) (by omega) (by omega) (by omega)) (h65 27 (by decide)) w4, iWorth_of (fun a ha => hc a (by omega) (by omega) (by omega) (by omega)) (h65 27 (by decide)) (h65 28 (by decide)) w5, iNotes_of (fun j _ => by rw [hc 47 (by decide) (by decide) (by decide) (by decide)]) (fun j hj => h65 j (by omega)) (hc 48 (by decide) (by decide) (by decide) (by decide)) (hc 85 (by decide) (by decide) (by decide) (by decide)) w6, iImage_of (fun j _ => by rw [hc 47 (by decide) (by decide) (by decide) (by decide)]) (fun j hj => h65 j (by omega)) (hc 49 (by decide) (by decide) (by decide) (by decide)) (hc 98 (by decide) (by decide) (by decide) (by decide)) w7, iLast_of (by rw [hc 47 (by decide) (by decide) (by decide) (by decide)]) (fun j _ => by rw [hc 52 (by decide) (by decide) (by decide) (by decide)]) (hc 87 (by decide) (by decide) (by decide) (by decide)) w8, ⟨odOr_of (hc 58 (by decide) (by decide) (by decide) (by decide)) w9.1, (hc 999 (by decide) (by decide) (by decide) (by decide)).trans w9.2⟩⟩
theorem st_feed (w : Inv sc ls t mem) (a b c d e : Int) : stp 0 bX11_feed 1 [(2, 0), (0, a), (0, b), (0, c), (0, d), (0, e)] bX12_feed 1 [(2, 65), (0, a), (0, b), (0, c), (0, d), (0, e)] mem (Inv sc ls t) := by
  have hi : ∀ m1, m1 = fedM 2 1 1 (by20 a b c d e) mem → ∀ x, x ≠ 1 → x ≠ 2 → m1 x = mem x := by
    intro m1 f x x1 x2
    rw [f]
    unfold fedM
    split
    · exact apN_else _ _ _ x2 x1 _
    · rfl
  refine stp_of (c3 := fun v1 m1 q => hi m1 q.2 999 (by decide) (by decide)) (c_X11_feed mem a b c d e w.1.1) (fun v1 m1 q => c_X12_feed m1 a b c d e (by rw [hi m1 q.2 65 (by decide) (by decide), w.1.2.1]; exact w.1.1)) (fun v1 m1 v2 m2 q1 q2 => ?_)
  obtain ⟨e1, f1⟩ := q1
  obtain ⟨e2, f2⟩ := q2
  have h := hi m1 f1
  obtain ⟨s1, s2, s3, s4⟩ := id w.1
  have z : m1 65 2 = mem 1 1 := by rw [h 65 (by decide) (by decide), s2]
  unfold fedV at e1 e2
  unfold fedM at f1 f2
  rw [z] at e2 f2
  obtain ⟨B, hB⟩ : ∃ B, by20 a b c d e = B := ⟨_, rfl⟩
  have rB : ∀ k, 0 ≤ B k ∧ B k ≤ 255 := by
    rw [← hB]
    exact by20_rng a b c d e
  rw [hB] at e1 e2 f1 f2
  have nz := nzN_rng B 20
  by_cases g : mem 1 1 + nzN B 20 ≤ 160
  · rw [if_pos g] at e1 e2 f1 f2
    refine ⟨by rw [e1, e2], ?_⟩
    have r2 : m2 2 = m1 2 := by
      rw [f2]
      exact apN_else _ _ _ (by decide) (by decide) _
    have r1 : m2 1 = m1 1 := by
      rw [f2]
      exact apN_else _ _ _ (by decide) (by decide) _
    refine Inv_tape w (fun x x1 x2 x3 x4 => ?_) (fun j hj => ?_) ⟨?_, ?_, fun i i1 => ?_, fun i i0 i1 => ?_⟩
    · rw [f2, apN_else _ _ _ x4 x3 _]
      exact h x x1 x2
    · rw [f2, apN_slot (by decide) _ _ _ hj _, h 65 (by decide) (by decide)]
    · rw [r1, f1, apN_size (by decide)]
      omega
    · rw [r1, f1, f2, apN_size (by decide), apN_size (by decide), z]
    · rw [r2, f1, f2]
      exact apN_all (by decide) (by decide) B z (fun i i1 => by rw [h 66 (by decide) (by decide)]; exact s3 i i1) 20 i i1
    · rw [r2, r1, f1, apN_size (by decide)]
      exact apN_bytes (by decide) rB s1.1 s4 20 i i0 i1
  · rw [if_neg g] at e1 e2 f1 f2
    exact ⟨by rw [e1, e2], by rw [f2, f1]; exact w⟩
theorem st_end (w : Inv sc ls t mem) (x : Int) (hx : R32 x) : stp 0 bX11_end 0 [(2, 0), (0, x)] bX12_end 0 [(2, 65), (0, x)] mem (Inv sc ls t) := stp_of (c3 := fun v1 m1 q => by
  rw [q.2]
  split
  · rw [mset_ne (by decide)]
  · rfl) (c_X11_end mem x hx) (fun v1 m1 _ => c_X12_end m1 x hx) (fun v1 m1 v2 m2 q1 q2 => by
  obtain ⟨e1, f1⟩ := q1
  obtain ⟨e2, f2⟩ := q2
  have h : ∀ a, a ≠ 1 → m1 a = mem a := by
    intro a ha
    rw [f1]
    split
    · exact mset_ne ha
    · rfl
  obtain ⟨s1, s2, s3, s4⟩ := id w.1
  rw [h 65 (by decide), s2] at e2 f2
  refine ⟨by rw [e1, e2], ?_⟩
  by_cases g : 0 ≤ x ∧ x ≤ mem 1 1
  · rw [if_pos g] at f1 f2
    have k2 : ∀ a, a ≠ 1 → a ≠ 65 → m2 a = mem a := fun a a1 a2 => by rw [f2, mset_ne a2, h a a1]
    have a11 : m2 1 1 = x := by rw [f2, mset_ne (by decide), f1, mset_same]
    have a65 : m2 65 2 = x := by rw [f2, mset_same]
    refine Inv_tape w (fun a a1 _ a2 _ => k2 a a1 a2) (fun j hj => by rw [f2, mset_at, if_neg hj, h 65 (by decide)]) ?_
    unfold iTape
    rw [a11, a65, k2 66 (by decide) (by decide), k2 2 (by decide) (by decide)]
    exact ⟨by omega, rfl, s3, fun i i0 i1 => ⟨(s4 i i0 i1).1, (s4 i i0 i1).2.1, fun z => (s4 i i0 i1).2.2 (by omega)⟩⟩
  · rw [if_neg g] at f1 f2
    rw [f2, f1]
    exact w)
theorem planX_ne {a : Nat} (h : a ≠ 38) : planX mem a = mem a := rowTo_ne _ _ _ h
theorem Inv_leap (w : Inv sc ls t mem) (hc : ∀ a, a ≠ 36 → a ≠ 37 → a ≠ 38 → a ≠ 83 → a ≠ 84 → m a = mem a) (il : iLeap m) : Inv sc ls t m := by
  obtain ⟨w1, w2, w3, -, w5, w6, w7, w8, w9⟩ := w
  have c : ∀ a, (a < 36 ∨ (38 < a ∧ a < 83) ∨ 84 < a) → m a = mem a := fun a ha => hc a (by omega) (by omega) (by omega) (by omega) (by omega)
  have k := w2.1
  exact ⟨iTape_of (by rw [c 1 (by omega)]) (c 2 (by omega)) (by rw [c 65 (by omega)]) (c 66 (by omega)) w1, iLaws_of (fun j _ => by rw [c 0 (by omega)]) (fun k hk => ⟨by rw [c (11 + 3 * k) (by omega)], c (12 + 3 * k) (by omega)⟩) (fun j hj => by rw [c 65 (by omega)]) (fun a ha => c a (by omega)) w2, iPlay_of (fun a ha => c a (by omega)) ⟨by rw [c 65 (by omega)], by rw [c 65 (by omega)]⟩ w3, il, iWorth_of (fun a ha => c a (by omega)) (by rw [c 65 (by omega)]) (by rw [c 65 (by omega)]) w5, iNotes_of (fun j _ => by rw [c 47 (by omega)]) (fun j hj => by rw [c 65 (by omega)]) (c 48 (by omega)) (c 85 (by omega)) w6, iImage_of (fun j _ => by rw [c 47 (by omega)]) (fun j hj => by rw [c 65 (by omega)]) (c 49 (by omega)) (c 98 (by omega)) w7, iLast_of (by rw [c 47 (by omega)]) (fun j _ => by rw [c 52 (by omega)]) (c 87 (by omega)) w8, ⟨odOr_of (c 58 (by omega)) w9.1, (c 999 (by omega)).trans w9.2⟩⟩
theorem st_set (w : Inv sc ls t mem) (x y z : Int) (hx : R32 x) (hy : R32 y) (hz : R32 z) : stp 0 bX11_set 6 [(2, 0), (0, x), (0, y), (0, z)] bX12_set 3 [(2, 65), (0, x), (0, y), (0, z)] mem (Inv sc ls t) := stp_of (c3 := fun v1 m1 q => by
  rcases q with ⟨-, f, -⟩ | ⟨-, f, -⟩ | ⟨-, f, -⟩
  · rw [f]
  · rw [f, planX_ne (by decide), mset_ne (by decide)]
  · rw [f, mset_ne (by decide)]) (c_X11_set mem x y z hx hy hz w.nX w.act) (fun v1 m1 _ => c_X12_set m1 x y z hx hy hz) (fun v1 m1 v2 m2 q1 q2 => by
  obtain ⟨l1, l2⟩ := id w.2.2.2.1
  rcases q1 with ⟨e1, f1, g1⟩ | ⟨e1, f1, g1, g2, g3, g4⟩ | ⟨e1, f1, g1, g2, g3, g4⟩
  · rcases q2 with ⟨e2, f2, -⟩ | ⟨-, -, h1, h2, h3, h4⟩ | ⟨-, -, h1, h2, h3, h4⟩
    · exact ⟨e1.trans e2.symm, by rw [f2, f1]; exact w⟩
    · exact absurd ⟨h1, h3, Or.inl ⟨h2, h4⟩⟩ g1
    · exact absurd ⟨h1, h3, Or.inr ⟨h2, h4⟩⟩ g1
  · rcases q2 with ⟨-, -, h1⟩ | ⟨e2, f2, -⟩ | ⟨-, -, -, h2, -⟩
    · exact absurd ⟨g1, g3, Or.inl ⟨g2, g4⟩⟩ h1
    · refine ⟨e1.trans e2.symm, ?_⟩
      have k : ∀ a, a ≠ 36 → a ≠ 38 → a ≠ 83 → m2 a = mem a := fun a a1 a2 a3 => by rw [f2, mset_ne a3, f1, planX_ne a2, mset_ne a1]
      have k36 : ∀ i, m2 36 i = if i = x then z else mem 36 i := fun i => by rw [f2, mset_ne (by decide), f1, planX_ne (by decide), mset_at]
      have k83 : ∀ i, m2 83 i = if i = x then z else mem 83 i := fun i => by rw [f2, mset_at, f1, planX_ne (by decide), mset_ne (by decide)]
      refine Inv_leap w (fun a a1 _ a2 a3 _ => k a a1 a2 a3) ⟨fun a a0 a1 => ?_, fun i i0 i1 => ?_⟩
      · rw [k36, k83, k 37 (by decide) (by decide) (by decide), k 84 (by decide) (by decide) (by decide)]
        have q := l1 a a0 a1
        by_cases e : a = x
        · rw [if_pos e, if_pos e]
          exact ⟨rfl, q.2.1, ⟨g3, g4⟩, q.2.2.2⟩
        · rw [if_neg e, if_neg e]
          exact q
      · rw [k 65 (by decide) (by decide) (by decide)] at i1
        have e79 := w.e24 i i0 i1
        have ac := w.act i i0 (by rw [w.size]; exact i1)
        have hk : m2 36 (mem 79 i) = m2 83 (mem 79 i) := by
          rw [k36, k83, ← e79]
          have q := (l1 (mem 24 i) ac.1 ac.2).1
          split
          · rfl
          · exact q
        have lm : leapM m2 i = leapF (m2 83 (mem 79 i)) (mem 65 27) (mem 79) (cueF (mem 80)) i := by
          unfold leapM
          rw [k 79 (by decide) (by decide) (by decide), k 80 (by decide) (by decide) (by decide), k 65 (by decide) (by decide) (by decide)]
        have lx : m2 38 i = leapF (m2 36 (mem 79 i)) (mem 65 27) (mem 24) (mem 28) i := by
          have e36 : m2 36 = mset mem 36 x z 36 := by rw [f2, mset_ne (by decide), f1, planX_ne (by decide)]
          have l0 : m2 38 i = planX (mset mem 36 x z) 38 i := by rw [f2, mset_ne (by decide), f1]
          rw [l0, e36]
          unfold planX
          rw [mset_ne (show (24 : Nat) ≠ 36 by decide), mset_ne (show (23 : Nat) ≠ 36 by decide), mset_ne (show (28 : Nat) ≠ 36 by decide), w.size, rowTo_in _ _ _ ⟨i0, i1⟩, e79]
        rw [lx, lm, hk]
        exact leapF_congr w.e24 w.e28 i
    · omega
  · rcases q2 with ⟨-, -, h1⟩ | ⟨-, -, -, h2, -⟩ | ⟨e2, f2, -⟩
    · exact absurd ⟨g1, g3, Or.inr ⟨g2, g4⟩⟩ h1
    · omega
    · refine ⟨e1.trans e2.symm, ?_⟩
      have k : ∀ a, a ≠ 37 → a ≠ 84 → m2 a = mem a := fun a a1 a2 => by rw [f2, mset_ne a2, f1, mset_ne a1]
      refine Inv_leap w (fun a _ a1 _ _ a2 => k a a1 a2) ⟨fun a a0 a1 => ?_, fun i i0 i1 => ?_⟩
      · have k37 : m2 37 a = if a = x then z else mem 37 a := by rw [f2, mset_ne (by decide), f1, mset_at]
        have k84 : m2 84 a = if a = x then z else mem 84 a := by rw [f2, mset_at, f1, mset_ne (by decide)]
        rw [k37, k84, k 36 (by decide) (by decide), k 83 (by decide) (by decide)]
        have q := l1 a a0 a1
        by_cases e : a = x
        · rw [if_pos e, if_pos e]
          exact ⟨q.1, rfl, q.2.2.1, ⟨g3, g4⟩⟩
        · rw [if_neg e, if_neg e]
          exact q
      · rw [k 65 (by decide) (by decide)] at i1
        rw [k 38 (by decide) (by decide), leapM_congr (by rw [k 65 (by decide) (by decide)]) (k 79 (by decide) (by decide)) (k 80 (by decide) (by decide)) (k 83 (by decide) (by decide))]
        exact l2 i i0 i1)
end
