/-! texts taken: a book, a law -/
section
variable {sc : Int → Int} {ls : Nat → lawT} {lw n ng im t : Int} {b m m0 : mmM}
theorem TL_CS {k : Nat} {f : Int → Int} (hj : ∀ i, i < 0 → m0 2 i = 0) (h : TL m0 k f k m) (hf : ∀ j : Int, 0 ≤ j → j < k → ¬ f j = 32) : CX m = chT f k ∧ SX m = fun i => i := by
  obtain ⟨h1, h2, -, -⟩ := h
  constructor
  · show chT (m 2) (m 1 1) = _
    rw [h1]
    funext i
    unfold chT
    by_cases q : 0 ≤ i ∧ i < (k : Int)
    · rw [if_pos q, if_pos q, h2, if_pos q]
    · rw [if_neg q, if_neg q]
  · show skT (m 2) (m 1 1) = _
    rw [h1]
    funext i
    refine skT_end (fun z => ?_)
    have e := z.2
    rw [h2] at e
    by_cases q : 0 ≤ i ∧ i < (k : Int)
    · rw [if_pos q] at e
      exact hf i q.1 q.2 e
    · rw [if_neg q, hj i (by omega)] at e
      exact absurd e (by decide)
theorem IB_TL {k : Nat} {f : Int → Int} (w : IB sc ls lw m0) (h : TL m0 k f k m) (hf : ∀ j : Int, 0 ≤ j → j < k → 1 ≤ f j ∧ f j ≤ 127) (hk : k ≤ 160) : IB sc ls lw m := by
  obtain ⟨h1, h2, h3, h4⟩ := h
  obtain ⟨⟨w1, w0⟩, w2, w3, w4, w5⟩ := w
  have k4 := w2.1
  refine ⟨⟨⟨by omega, fun i i0 i1 => ?_⟩, fun i i0 => ?_⟩, jLaws_of ⟨by rw [h4 0 (by decide) (by decide)], by rw [h4 0 (by decide) (by decide)]⟩ (fun k hk => ⟨by rw [h4 _ (by omega) (by omega)], h4 _ (by omega) (by omega)⟩) w2, ?_, odOr_of (h4 58 (by decide) (by decide)) w4, (h4 999 (by decide) (by decide)).trans w5⟩
  · rw [h2]
    by_cases q : 0 ≤ i ∧ i < (k : Int)
    · rw [if_pos q]
      have := hf i q.1 q.2
      omega
    · rw [if_neg q]
      exact w1.2 i i0 i1
  · rw [h2, if_neg (by omega)]
    exact w0 i i0
  · unfold jActs
    rw [h4 36 (by decide) (by decide), h4 37 (by decide) (by decide)]
    exact w3
theorem IB.lawsX (w : IB sc ls lw b) : lawsX b (ls (b 0 12).toNat) := by
  obtain ⟨i1, i2, i5⟩ := w.2.1
  refine ⟨by omega, fun z => ?_, fun z => ?_, fun z => ?_, fun z => ?_⟩
  · have r := i5 0 (by omega)
    rw [show (b 0 12).toNat = 0 by omega]
    exact r
  · have r := i5 1 (by omega)
    rw [show (b 0 12).toNat = 1 by omega]
    exact r
  · have r := i5 2 (by omega)
    rw [show (b 0 12).toNat = 2 by omega]
    exact r
  · have r := i5 3 (by omega)
    rw [show (b 0 12).toNat = 3 by omega]
    exact r
theorem keptS_all (K : Int → Int) : ∀ k : Nat, (∀ i : Int, 0 ≤ i → i < k → K i = 0) → (keptS K k).1 = k := by
  intro k
  induction k with
  | zero => exact fun _ => rfl
  | succ k ih =>
    intro h
    rw [keptS_yes (h k (by omega) (by omega))]
    show (keptS K k).1 + 1 = _
    rw [ih (fun i i0 i1 => h i i0 (by omega))]
    rfl
theorem am_book {at_ : Int} {k : Nat} (w : IB sc ls lw b) (ht : 0 ≤ t) (hk : 2 ≤ k ∧ k ≤ 13) (hC : CX b = chT (bkT sc at_ k) (bkN sc at_ k)) (hS : SX b = fun i => i) : con 0 bX11_text 37 [(2, 0), (0, 0)] b (fun v m => v = k ∧ IX sc ls lw k 0 (-1) t m) := by
  have i1 := w.2.1.1
  refine con.mono (c_X11_text b 0 (ls (b 0 12).toNat) ⟨by decide, by decide⟩ w.1.1 w.lawsX (by omega)) (fun v m q => ?_)
  obtain ⟨A', W', L', tb⟩ := tp_book (n := k) (at_ := at_) (sc := sc) (C := CX b) (S := SX b) (fun i i0 => by
    rw [hC]
    unfold chT
    by_cases g : i < bkN sc at_ k
    · rw [if_pos ⟨i0, g⟩, if_pos g]
    · rw [if_neg (fun z => g z.2), if_neg g]) (fun i => by rw [hS]) ⟨hk.1, by omega⟩ (b 4) (b 5) (b 6) (cut0 b)
  rcases q with ⟨-, ⟨f, e, -⟩ | ⟨c, A, W, L, K, mr, e, hb, ev, tx⟩⟩ | ⟨z, -⟩ | ⟨z, -⟩
  · rw [tb] at e
    cases e
  · have rx := readX_of w.1.1 e hb
    rw [tb] at e
    cases e
    obtain ⟨-, frr, r5, r4, rw5, r6, r7⟩ := hb
    have kz : (keptS (mr 7) (mr 3 5).toNat).1 = k := by
      rw [r5, r7]
      have := keptS_all (cut0 b) k (fun i j0 j1 => if_pos ⟨j0, by omega⟩)
      rw [show ((k : Int)).toNat = k by omega]
      exact this
    refine ⟨by rw [ev, kz], ?_⟩
    obtain ⟨ma, mb, pp, hd, fx⟩ := tx
    have s : ∀ a, a ≠ 1 → mset mr 1 1 0 a = mr a := fun a ha => mset_ne ha
    have B := putP_bnd (mem := mset mr 1 1 0) (m := ma) (by
      unfold readX
      rw [s 3 (by decide), s 4 (by decide), s 5 (by decide), s 6 (by decide)]
      exact rx) pp
    obtain ⟨⟨a1, a2, a3, a4, a5⟩, a6⟩ := pp
    rw [s 3 (by decide), s 7 (by decide), kz] at a3
    obtain ⟨h1, h2, h3, h4, h5, h6⟩ := id hd
    have xb : ∀ a, a ≠ 38 → a ≠ 47 → a ≠ 48 → m a = mb a := fun a b1 b2 b3 => by rw [fx, clearX_else _ b2 b3, planX_else _ b1]
    have xa : ∀ a, (a < 11 ∨ 22 < a) → a ≠ 0 → a ≠ 31 → a ≠ 32 → mb a = ma a := h1
    have xr : ∀ a, (a < 23 ∨ 30 < a) → a ≠ 1 → a ≠ 3 → a ≠ 4 → a ≠ 5 → a ≠ 6 → a ≠ 7 → ma a = b a := fun a b1 b2 b3 b4 b5 b6 b7 => by rw [a1 a b1, s a b2, frr.1 a b2 b3 b4 b5 b6 b7]
    have mX : ∀ a, (a = 2 ∨ (32 < a ∧ a ≠ 38 ∧ a ≠ 47 ∧ a ≠ 48)) → m a = b a := fun a c => by rw [xb a (by omega) (by omega) (by omega), xa a (by omega) (by omega) (by omega) (by omega), xr a (by omega) (by omega) (by omega) (by omega) (by omega) (by omega) (by omega)]
    have p : ∀ a, (23 ≤ a ∧ a ≤ 30) → m a = ma a := fun a c => by rw [xb a (by omega) (by omega) (by omega), xa a (by omega) (by omega) (by omega) (by omega)]
    have z0 : m 0 = mb 0 := xb 0 (by decide) (by decide) (by decide)
    have z11 : m 0 11 = b 0 11 := by rw [z0, h2 11 (by decide), xr 0 (by omega) (by decide) (by decide) (by decide) (by decide) (by decide) (by decide)]
    have er : mr 0 12 = b 0 12 := by rw [frr.1 0 (by decide) (by decide) (by decide) (by decide) (by decide) (by decide)]
    have z12 : m 0 12 = b 0 12 := by rw [z0, h3, er]
    have z1 : m 1 1 = 0 := by rw [xb 1 (by decide) (by decide) (by decide), xa 1 (by omega) (by decide) (by decide) (by decide), a1 1 (by omega), mset_same]
    have c0 : m 47 0 = 0 := by
      rw [fx]
      unfold clearX
      rw [mrow_ne (by decide), mset_at, if_neg (by decide), mset_at, if_neg (by decide), mset_at, if_neg (by decide), mset_same]
    have c2 : m 47 2 = 0 := by
      rw [fx]
      unfold clearX
      rw [mrow_ne (by decide), mset_at, if_neg (by decide), mset_same]
    have c4 : m 47 4 = 0 := by
      rw [fx]
      unfold clearX
      rw [mrow_ne (by decide), mset_same]
    have c48 : ∀ i, 0 ≤ i → i < 24 → m 48 i = 0 := fun i i0 i1 => by
      rw [fx]
      unfold clearX
      rw [mrow_same, if_pos ⟨i0, i1⟩]
    obtain ⟨⟨w1, w0⟩, w2, w3, w4, w5⟩ := id w
    refine ⟨⟨⟨⟨by omega, ?_⟩, ?_⟩, jLaws_of ⟨z11, z12⟩ (fun j hj => ?_) w2, ?_, odOr_of (mX 58 (by omega)) w4, (mX 999 (by omega)).trans w5⟩, ⟨⟨by rw [p 23 (by omega), a3], by omega, by omega⟩, ?_⟩, ?_, ?_, ⟨by rw [c0]; exact ⟨Int.le_refl _, p2_pos _⟩, ⟨c2, Int.le_refl _, ht⟩, fun i i0 i1 => ?_⟩, Or.inl ⟨c4, rfl⟩⟩
    · rw [mX 2 (by omega)]
      exact w1.2
    · rw [mX 2 (by omega)]
      exact w0
    · have hl := hold_law hd (k := j) (by omega)
      have a0 : ∀ a, 11 ≤ a → a ≤ 22 → m a = mb a := fun a g1 g2 => xb a (by omega) (by omega) (by omega)
      have aq : ∀ a, 11 ≤ a → a ≤ 22 → ma a = b a := fun a g1 g2 => xr a (by omega) (by omega) (by omega) (by omega) (by omega) (by omega) (by omega)
      refine ⟨by rw [a0 (11 + 3 * j) (by omega) (by omega), hl.1, aq _ (by omega) (by omega)], by rw [a0 (12 + 3 * j) (by omega) (by omega), hl.2, aq _ (by omega) (by omega)]⟩
    · unfold jActs
      rw [mX 36 (by omega), mX 37 (by omega)]
      exact w3
    · intro i i0 i1
      rw [p 24 (by omega), p 26 (by omega), p 29 (by omega), p 30 (by omega)]
      exact B.2 i i0 (by rw [a3]; exact i1)
    · intro i i0 i1
      rw [p 24 (by omega), p 28 (by omega), mX 36 (by omega), fx, clearX_else _ (by decide) (by decide)]
      unfold planX
      rw [rowTo_in _ _ _ ⟨i0, by rw [xa 23 (by omega) (by decide) (by decide) (by decide), a3]; exact i1⟩, xa 23 (by omega) (by decide) (by decide) (by decide), xa 24 (by omega) (by decide) (by decide) (by decide), xa 28 (by omega) (by decide) (by decide) (by decide), xa 36 (by omega) (by decide) (by decide) (by decide), a3, xr 36 (by omega) (by decide) (by decide) (by decide) (by decide) (by decide) (by decide)]
    · intro i j0 j1
      have pp := h6 i j0 (by rw [a3]; exact j1)
      rw [xb 31 (by decide) (by decide) (by decide), xb 32 (by decide) (by decide) (by decide), pp.1, pp.2]
      refine ⟨?_, ?_⟩
      · split
        · decide
        · exact percS_bnd _
      · split
        · decide
        · exact percS_bnd _
    · rw [c48 i i0 i1]
      exact ⟨by omega, fun _ => rfl⟩
  · exact absurd z (by decide)
  · exact absurd rfl z
theorem am_lawtext (w : IX sc ls lw n ng im t b) (hr : (lawP (CX b) (SX b) 200 0).isRight = true) : con 0 bX11_text 37 [(2, 0), (0, 1)] b (fun v m => v = (if lw < 4 then lw else -1) ∧ ∃ ls', IX sc ls' (if lw < 4 then lw + 1 else lw) n ng im t m) := by
  obtain ⟨i1, i2, i5⟩ := id w.1.2.1
  refine con.mono (c_X11_text b 1 (ls (b 0 12).toNat) ⟨by decide, by decide⟩ w.1.1.1 w.1.lawsX (by omega)) (fun v m q => ?_)
  rcases q with ⟨z, -⟩ | ⟨-, q⟩ | ⟨-, z, -⟩
  · exact absurd z (by decide)
  · rcases q with ⟨g, e, f⟩ | ⟨g, f, e, -⟩ | ⟨g, cl, mr, k, e, hb, ek, ev, tx⟩
    · rw [if_neg (by omega), if_neg (by omega)]
      exact ⟨e, ls, by rw [f]; exact w⟩
    · rw [e] at hr
      cases hr
    · rw [if_pos (by omega), if_pos (by omega)]
      refine ⟨by omega, fun j => if j = k then cl else ls j, ?_⟩
      obtain ⟨-, ⟨f1, f2, f3⟩, hz, hl⟩ := hb
      obtain ⟨t1, t2, t3, t4, t5, t6, t7, t8⟩ := tx
      have fr : ∀ a, a ≠ 0 → a ≠ 1 → a ≠ 8 → a ≠ 9 → a ≠ 11 + 3 * k → a ≠ 12 + 3 * k → m a = b a := fun a a0 a1 a2 a3 a4 a5 => by rw [t1 a a0 a1 a4 a5, f1 a a1 a2 a3]
      have hk4 : k < 4 := by omega
      have ff : ∀ a, 22 < a → m a = b a := fun a ha => fr a (by omega) (by omega) (by omega) (by omega) (by omega) (by omega)
      obtain ⟨⟨⟨w1, w0⟩, w2, w3, w4, w5⟩, p2, p3, p4, p5, p6⟩ := id w
      refine ⟨⟨⟨⟨by omega, ?_⟩, ?_⟩, ⟨⟨by omega, by omega, by omega⟩, ⟨?_, ?_⟩, fun j hj => ?_⟩, ?_, odOr_of (ff 58 (by decide)) w4, (ff 999 (by decide)).trans w5⟩, ?_, ?_, ?_, ?_, ?_⟩
      · rw [fr 2 (by decide) (by decide) (by decide) (by decide) (by omega) (by omega)]
        exact w1.2
      · rw [fr 2 (by decide) (by decide) (by decide) (by decide) (by omega) (by omega)]
        exact w0
      · rw [t2 12 (by decide), f1 0 (by decide) (by decide) (by decide)]
        omega
      · rw [t2 12 (by decide), f1 0 (by decide) (by decide) (by decide)]
        omega
      · show (0 ≤ m (11 + 3 * j) 1 ∧ m (11 + 3 * j) 1 ≤ 160) ∧ lawX (m (12 + 3 * j)) (m (11 + 3 * j) 1) 0 (if j = k then cl else ls j)
        by_cases c : j = k
        · subst c
          rw [t7, if_pos rfl]
          refine ⟨hz, ?_⟩
          exact lawX_congr cl 0 (fun i i0 i1 => (t8 i i0 i1).symm) hl
        · rw [if_neg c]
          rw [fr (11 + 3 * j) (by omega) (by omega) (by omega) (by omega) (by omega) (by omega), fr (12 + 3 * j) (by omega) (by omega) (by omega) (by omega) (by omega) (by omega)]
          exact i5 j (by omega)
      · unfold jActs
        rw [ff 36 (by decide), ff 37 (by decide)]
        exact w3
      · unfold jPlay
        rw [ff 23 (by decide), ff 24 (by decide), ff 26 (by decide), ff 29 (by decide), ff 30 (by decide)]
        exact p2
      · unfold jLeap
        rw [ff 24 (by decide), ff 28 (by decide), ff 36 (by decide), ff 38 (by decide)]
        exact p3
      · unfold jWorth
        rw [ff 31 (by decide), ff 32 (by decide)]
        exact p4
      · unfold jNotes
        rw [ff 47 (by decide), ff 48 (by decide)]
        exact p5
      · unfold jImg
        rw [ff 47 (by decide), ff 49 (by decide)]
        exact p6
  · exact absurd rfl z
end
