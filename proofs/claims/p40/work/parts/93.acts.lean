theorem ntStep_far (fg : Int → Int → Int) (tk to : Int → Int) (mk : Int) (s : ntT) {j : Int} (h : ¬ j = s.2.1) : (ntStep fg tk to mk s).2.2.2.2.2 j = s.2.2.2.2.2 j := by
  unfold ntStep
  split
  · split
    · exact if_neg h
    · exact if_neg h
  · rfl
theorem ntSt_far {n : Int} {fg : Int → Int → Int} {tk to : Int → Int} {mk seed : Int} {j : Int} (hj : n ≤ j) : ∀ k : Nat, (∀ i, i < k → ntAlive n fg tk to mk seed i) → (ntSt fg tk to mk seed k).2.2.2.2.2 j = 0 := by
  intro k
  induction k with
  | zero => exact fun _ => rfl
  | succ k ih =>
    intro h
    have a := (h k (by omega)).2.1
    show (ntStep fg tk to mk (ntSt fg tk to mk seed k)).2.2.2.2.2 j = 0
    rw [ntStep_far _ _ _ _ _ (by omega)]
    exact ih (fun i hi => h i (by omega))
theorem ntFin_far {n : Int} {fg : Int → Int → Int} {tk to : Int → Int} {mk seed : Int} {j : Int} (hj : n ≤ j) {k : Nat} (h : ∀ i, i < k → ntAlive n fg tk to mk seed i) : (ntFin n fg tk to mk seed k).2.2.2.2.2 j = 0 := by
  unfold ntFin
  by_cases q : ntOut n fg tk to mk seed k = 1
  · rw [if_pos q]
    have hc : (ntSt fg tk to mk seed k).2.1 < n := by
      unfold ntOut at q
      by_cases z : n ≤ (ntSt fg tk to mk seed k).2.1
      · rw [if_pos z] at q
        omega
      · omega
    show (ntStep fg tk to mk (ntSt fg tk to mk seed k)).2.2.2.2.2 j = 0
    rw [ntStep_far _ _ _ _ _ (by omega)]
    exact ntSt_far hj k h
  · rw [if_neg q]
    exact ntSt_far hj k h
theorem learnF_more (n : Int) (l : Int → Int) (x : Int) (hn : 0 ≤ n ∧ n ≤ 24) (hl : ∀ i, n ≤ i → i < 24 → l i = 0) : learnF 24 l x = learnF n l x := foldTo_congr (fun i mk _ _ => by simp only [mostP_more n 24 mk l hn.1 hn.2 hl])
theorem c_X11_law_no (mem : mmM) (x : Int) (hx : R32 x) (h : ¬ (-1 ≤ x ∧ x < mem 0 11)) : con 0 bX11_law 6 [(2, 0), (0, x)] mem (fun v m => v = 0 ∧ m = mem) := cn_X11_law (bk_X11_law_0 (d1 := 0) (d2 := 0) (P1 := fun _ _ => True) (P2 := fun _ => True) (fun g g2 => absurd ⟨g, g2⟩ h) (fun g g2 => absurd ⟨g, g2⟩ h) (fun _ => ⟨rfl, rfl⟩) (fun g g2 => absurd ⟨g, g2⟩ h) (fun _ _ => ⟨rfl, rfl⟩))
theorem hold_law {mx mb : mmM} {x : Int} {cl : lawT} (h : holdP mx x cl mb) {k : Nat} (hk : k < 4) : mb (11 + 3 * k) 1 = mx (11 + 3 * k) 1 ∧ mb (12 + 3 * k) = mx (12 + 3 * k) := by
  obtain ⟨-, -, -, ⟨a1, a2, a3, a4⟩, ⟨b1, b2, b3, b4⟩, -⟩ := h
  have c : k = 0 ∨ k = 1 ∨ k = 2 ∨ k = 3 := by omega
  rcases c with c | c | c | c
  · subst c
    exact ⟨a1, b1⟩
  · subst c
    exact ⟨a2, b2⟩
  · subst c
    exact ⟨a3, b3⟩
  · subst c
    exact ⟨a4, b4⟩
theorem percS_bnd (z : Int) : 0 ≤ percS z ∧ percS z ≤ 100 := by
  unfold percS
  (repeat' split) <;> omega
section
variable {sc : Int → Int} {ls : Nat → lawT} {lw n ng im t ng' im' t' : Int} {b m : mmM}
/-- what an act on the notes leaves -/
theorem IX_notes (w : IX sc ls lw n ng im t b) (e : ∀ a, a ≠ 47 → a ≠ 48 → a ≠ 49 → a ≠ 52 → a ≠ 53 → a ≠ 54 → m a = b a) (hN : jNotes n ng' t' m) (hI : jImg n im' t' m) : IX sc ls lw n ng' im' t' m := by
  obtain ⟨⟨w1, w2, w3, w4, w5⟩, p2, p3, p4, -⟩ := w
  have k4 := w2.1
  have f : ∀ a, a < 47 ∨ 54 < a → m a = b a := fun a ha => e a (by omega) (by omega) (by omega) (by omega) (by omega) (by omega)
  refine ⟨⟨jbyt_of (by rw [f 1 (by omega)]) (f 2 (by omega)) w1, jLaws_of ⟨by rw [f 0 (by omega)], by rw [f 0 (by omega)]⟩ (fun k hk => ⟨by rw [f _ (by omega)], f _ (by omega)⟩) w2, ?_, odOr_of (f 58 (by omega)) w4, (f 999 (by omega)).trans w5⟩, ?_, ?_, ?_, hN, hI⟩
  · unfold jActs
    rw [f 36 (by omega), f 37 (by omega)]
    exact w3
  · unfold jPlay
    rw [f 23 (by omega), f 24 (by omega), f 26 (by omega), f 29 (by omega), f 30 (by omega)]
    exact p2
  · unfold jLeap
    rw [f 24 (by omega), f 28 (by omega), f 36 (by omega), f 38 (by omega)]
    exact p3
  · unfold jWorth
    rw [f 31 (by omega), f 32 (by omega)]
    exact p4
/-- what an act on kinds and takes leaves -/
theorem IX_acts (w : IX sc ls lw n ng im t b) (f : ∀ a, a ≠ 36 → a ≠ 37 → a ≠ 38 → m a = b a) (hA : jActs m) (hL : jLeap n m) : IX sc ls lw n ng im t m := by
  obtain ⟨⟨w1, w2, w3, w4, w5⟩, p2, p3, p4, p5, p6⟩ := w
  have k4 := w2.1
  refine ⟨⟨jbyt_of (by rw [f 1 (by decide) (by decide) (by decide)]) (f 2 (by decide) (by decide) (by decide)) w1, jLaws_of ⟨by rw [f 0 (by decide) (by decide) (by decide)], by rw [f 0 (by decide) (by decide) (by decide)]⟩ (fun k hk => ⟨by rw [f _ (by omega) (by omega) (by omega)], f _ (by omega) (by omega) (by omega)⟩) w2, hA, odOr_of (f 58 (by decide) (by decide) (by decide)) w4, (f 999 (by decide) (by decide) (by decide)).trans w5⟩, ?_, hL, ?_, ?_, ?_⟩
  · unfold jPlay
    rw [f 23 (by decide) (by decide) (by decide), f 24 (by decide) (by decide) (by decide), f 26 (by decide) (by decide) (by decide), f 29 (by decide) (by decide) (by decide), f 30 (by decide) (by decide) (by decide)]
    exact p2
  · unfold jWorth
    rw [f 31 (by decide) (by decide) (by decide), f 32 (by decide) (by decide) (by decide)]
    exact p4
  · unfold jNotes
    rw [f 47 (by decide) (by decide) (by decide), f 48 (by decide) (by decide) (by decide)]
    exact p5
  · unfold jImg
    rw [f 47 (by decide) (by decide) (by decide), f 49 (by decide) (by decide) (by decide)]
    exact p6
theorem am_set (w : IX sc ls lw n ng im t b) (x y z : Int) (hx : R32 x) (hy : R32 y) (hz : R32 z) : con 0 bX11_set 6 [(2, 0), (0, x), (0, y), (0, z)] b (fun v m => IX sc ls lw n ng im t m) := by
  refine con.mono (c_X11_set b x y z hx hy hz w.nX w.act) (fun v m q => ?_)
  have hA := w.1.2.2.1
  rcases q with ⟨-, f, -⟩ | ⟨-, f, g1, -, g3, g4⟩ | ⟨-, f, g1, -, g3, g4⟩
  · rw [f]
    exact w
  · have e : ∀ a, a ≠ 36 → a ≠ 38 → m a = b a := fun a a1 a2 => by rw [f, planX_else _ a2, mset_ne a1]
    have k36 : m 36 = mset b 36 x z 36 := by rw [f, planX_else _ (by decide)]
    refine IX_acts w (fun a a1 _ a2 => e a a1 a2) ?_ ?_
    · intro a a0 a1
      rw [k36, mset_at, e 37 (by decide) (by decide)]
      refine ⟨?_, (hA a a0 a1).2⟩
      split
      · omega
      · exact (hA a a0 a1).1
    · intro i i0 i1
      rw [e 24 (by decide) (by decide), e 28 (by decide) (by decide), k36, f]
      unfold planX
      rw [rowTo_in _ _ _ ⟨i0, by rw [mset_ne (by decide), w.size]; exact i1⟩, mset_ne (show 23 ≠ 36 by decide), mset_ne (show 24 ≠ 36 by decide), mset_ne (show 28 ≠ 36 by decide), w.size]
  · have e : ∀ a, a ≠ 37 → m a = b a := fun a a1 => by rw [f, mset_ne a1]
    refine IX_acts w (fun a _ a1 _ => e a a1) ?_ ?_
    · intro a a0 a1
      rw [e 36 (by decide), f, mset_at]
      refine ⟨(hA a a0 a1).1, ?_⟩
      split
      · omega
      · exact (hA a a0 a1).2
    · unfold jLeap
      rw [e 24 (by decide), e 28 (by decide), e 36 (by decide), e 38 (by decide)]
      exact w.leap
theorem IX.letB (w : IX sc ls lw n ng im t b) : ∀ i j k, 0 ≤ i → i < b 23 1 → (j = 0 ∨ j = 1) → -1000000 ≤ letterX b (leF k) i j ∧ letterX b (leF k) i j ≤ 1000000 := by
  intro i j k i0 i1 hb
  have := letterX_bnd (mem := b) w.nX (fun j j0 j1 => by
    rw [w.size] at j1
    have r := w.row j j0 j1
    exact ⟨r.1, by omega, r.2.2.1, r.2.2.2⟩) (leF k) i j
  omega
theorem am_law (w : IX sc ls lw n ng im t b) (x : Int) (hx : -1 ≤ x ∧ x ≤ 4) : con 0 bX11_law 6 [(2, 0), (0, x)] b (fun v m => v = b2i (x < lw) ∧ IX sc ls lw n ng im t m) := by
  obtain ⟨i1, i2, i5⟩ := id w.1.2.1
  have hR : R32 x := R32_of (by omega) (by omega)
  by_cases g : x < lw
  · refine con.mono (c_X11_law b x (ls x.toNat) hR w.nX (by omega) w.letB (fun z => ?_) (fun z => ?_) (fun z => ?_) (fun z => ?_)) (fun v m q => ?_)
    · rw [show x.toNat = 0 by omega]
      exact i5 0 (by omega)
    · rw [show x.toNat = 1 by omega]
      exact i5 1 (by omega)
    · rw [show x.toNat = 2 by omega]
      exact i5 2 (by omega)
    · rw [show x.toNat = 3 by omega]
      exact i5 3 (by omega)
    · rcases q with ⟨y, -⟩ | ⟨-, q1, hd⟩
      · exact absurd ⟨hx.1, by omega⟩ y
      · refine ⟨by rw [q1, b2i_1 g], ?_⟩
        obtain ⟨h1, h2, h3, h4, h5, h6⟩ := id hd
        have f : ∀ a, (a < 11 ∨ 22 < a) → a ≠ 0 → a ≠ 31 → a ≠ 32 → m a = b a := h1
        obtain ⟨⟨w1, w2, w3, w4, w5⟩, p2, p3, p4, p5, p6⟩ := id w
        refine ⟨⟨jbyt_of (by rw [f 1 (by omega) (by decide) (by decide) (by decide)]) (f 2 (by omega) (by decide) (by decide) (by decide)) w1, ?_, ?_, odOr_of (f 58 (by omega) (by decide) (by decide) (by decide)) w4, (f 999 (by omega) (by decide) (by decide) (by decide)).trans w5⟩, ?_, ?_, ?_, ?_, ?_⟩
        · unfold jLaws
          rw [h2 11 (by decide), h3]
          refine ⟨i1, ⟨hx.1, g⟩, fun j hj => ?_⟩
          have hl := hold_law hd (k := j) (by omega)
          rw [hl.1, hl.2]
          exact i5 j hj
        · unfold jActs
          rw [f 36 (by omega) (by decide) (by decide) (by decide), f 37 (by omega) (by decide) (by decide) (by decide)]
          exact w3
        · unfold jPlay
          rw [f 23 (by omega) (by decide) (by decide) (by decide), f 24 (by omega) (by decide) (by decide) (by decide), f 26 (by omega) (by decide) (by decide) (by decide), f 29 (by omega) (by decide) (by decide) (by decide), f 30 (by omega) (by decide) (by decide) (by decide)]
          exact p2
        · unfold jLeap
          rw [f 24 (by omega) (by decide) (by decide) (by decide), f 28 (by omega) (by decide) (by decide) (by decide), f 36 (by omega) (by decide) (by decide) (by decide), f 38 (by omega) (by decide) (by decide) (by decide)]
          exact p3
        · intro i j0 j1
          have p := h6 i j0 (by rw [w.size]; exact j1)
          rw [p.1, p.2]
          refine ⟨?_, ?_⟩
          · split
            · decide
            · exact percS_bnd _
          · split
            · decide
            · exact percS_bnd _
        · unfold jNotes
          rw [f 47 (by omega) (by decide) (by decide) (by decide), f 48 (by omega) (by decide) (by decide) (by decide)]
          exact p5
        · unfold jImg
          rw [f 47 (by omega) (by decide) (by decide) (by decide), f 49 (by omega) (by decide) (by decide) (by decide)]
          exact p6
  · refine con.mono (c_X11_law_no b x hR (by omega)) (fun v m q => ?_)
    exact ⟨by rw [q.1, b2i_0 g], by rw [q.2]; exact w⟩
/-! a night -/
theorem keepX_ne {a : Nat} (h : a ≠ 47) (h2 : a ≠ 48) : keepX b a = b a := by
  unfold keepX
  rw [rowTo_ne _ _ _ h2, mset_ne h]
/-- what LATEST tells of the night -/
def nightR (how : Int) (m : mmM) : Prop := (how = 0 ∨ how = 1 ∨ how = 2) ∧ (0 ≤ m 52 3 ∧ m 52 3 ≤ 200) ∧ (0 ≤ m 52 10 ∧ m 52 10 ≤ m 52 9) ∧ (0 ≤ m 52 11 ∧ m 52 11 ≤ m 52 9 - m 52 10) ∧ (how = 0 → m 52 11 = m 52 9 - m 52 10) ∧ m 52 9 ≤ 201
theorem am_night (w : IX sc ls lw n ng im t b) (ht : 0 ≤ t ∧ t ≤ 1000) (x : Int) (hx : R64 x) : con 0 bX11_night 6 [(2, 0), (1, x)] b (fun v m => nightR v m ∧ IX sc ls lw n (ng + 1) im (t + 1) m) := by
  obtain ⟨n1, n2, n3⟩ := id w.2.2.2.2.1
  have hp := w.pN
  have hn := w.nn
  refine con.mono (c_X11_night b x hx w.nightP (R32_of (by omega) (by omega)) (by omega) (fun i i0 i1 => by have := (n3 i i0 i1).1; omega)) (fun v m q => ?_)
  rcases q with ⟨g, -⟩ | ⟨-, mx, qx, f1, e1⟩
  · rw [w.size] at g
    omega
  · obtain ⟨k, x1, ⟨x2, x3, x4⟩, ⟨x5, x6, x7, x8, x9⟩, x10⟩ := qx
    rw [w.size] at x1 x5 x6 x7 x8 x9 x10
    have k200 := ntEnd_200 x1
    have all := ntFin_all (by omega) w.leapB x1
    have cnt := ntFin_cnt n (forgetsX b) (takeX b) (b 38) (b 47 0) x k
    have c3 : (0 ≤ (ntFin n (forgetsX b) (takeX b) (b 38) (b 47 0) x k).2.2.1 ∧ (ntFin n (forgetsX b) (takeX b) (b 38) (b 47 0) x k).2.2.1 ≤ k + 1) ∧ 0 ≤ (ntFin n (forgetsX b) (takeX b) (b 38) (b 47 0) x k).2.2.2.1 ∧ 0 ≤ (ntFin n (forgetsX b) (takeX b) (b 38) (b 47 0) x k).2.2.2.2.1 := by
      have a1 := ntSt_cnt (forgetsX b) (takeX b) (b 38) (b 47 0) x k
      have a2 := ntSt_cnt (forgetsX b) (takeX b) (b 38) (b 47 0) x (k + 1)
      have e : (((k + 1 : Nat)) : Int) = (k : Int) + 1 := rfl
      unfold ntFin
      split <;> omega
    have far : ∀ j, n ≤ j → (ntFin n (forgetsX b) (takeX b) (b 38) (b 47 0) x k).2.2.2.2.2 j = 0 := fun j hj => ntFin_far hj x1.1
    obtain ⟨T, hT⟩ : ∃ T, ntFin n (forgetsX b) (takeX b) (b 38) (b 47 0) x k = T := ⟨_, rfl⟩
    rw [hT] at x5 x6 x7 x8 x9 cnt far all c3
    have e52 : m 52 = mx 52 := by rw [f1, keepX_ne (by decide) (by decide)]
    refine ⟨?_, ?_⟩
    · unfold nightR
      rw [e52, x3, x6, x7, x8, e1, x10]
      exact ⟨all.1, by omega, ⟨c3.2.1, all.2.1⟩, ⟨c3.2.2, all.2.2.1⟩, all.2.2.2, by omega⟩
    · have f : ∀ a, a ≠ 47 → a ≠ 48 → a ≠ 52 → a ≠ 53 → a ≠ 54 → m a = b a := fun a a1 a2 a3 a4 a5 => by rw [f1, keepX_ne a1 a2, x2 a a3 a5 a4]
      have k47 : ∀ j, j ≠ 2 → m 47 j = b 47 j := fun j hj => by
        rw [f1]
        unfold keepX
        rw [rowTo_ne _ _ _ (by decide), mset_at, if_neg hj, x2 47 (by decide) (by decide) (by decide)]
      refine IX_notes w (fun a a1 a2 _ a3 a4 a5 => f a a1 a2 a3 a4 a5) ?_ ?_
      · refine ⟨by rw [k47 0 (by decide)]; exact n1, ⟨?_, by omega, by omega⟩, fun i i0 i1 => ?_⟩
        · rw [f1]
          unfold keepX
          rw [rowTo_ne _ _ _ (by decide), mset_same, x2 47 (by decide) (by decide) (by decide), n2.1]
        · have z : m 48 i = b 48 i + T.2.2.2.2.2 i := by
            rw [f1]
            unfold keepX
            rw [rowTo_in _ _ _ ⟨i0, i1⟩, x2 48 (by decide) (by decide) (by decide), x9 i i0 i1]
          have a := n3 i i0 i1
          have c := cnt i
          rw [z]
          refine ⟨by omega, fun g => ?_⟩
          have := a.2 g
          have := far i g
          omega
      · have r : jImg n im t b := w.2.2.2.2.2
        unfold jImg
        rw [k47 4 (by decide), k47 5 (by decide), f 49 (by decide) (by decide) (by decide) (by decide) (by decide)]
        rcases r with r | ⟨r1, r2, r3, r4⟩
        · exact Or.inl r
        · refine Or.inr ⟨r1, r2, r3, fun i i0 i1 => ?_⟩
          have := r4 i i0 i1
          exact ⟨by omega, this.2⟩
theorem ck_latest (s : same b m) (x : Int) (hx : R32 x) (hg : ¬ b 47 2 = 0) : con 0 bX11_latest 2 [(2, 0), (0, x)] m (lk b (fun v => v = (if x = 0 then b 52 3 else if x = 1 then b 52 9 else if x = 2 then b 52 10 else if x = 3 then b 52 4 + 3 * b 52 10 else if x = 4 then b 52 11 else -1))) := con.mono (c_X11_latest m x hx) (fun v m' q => by
  refine ⟨?_, by rw [q.2]; exact s⟩
  rw [q.1, s.1 47 (by unfold keepC; omega), s.1 52 (by unfold keepC; omega), if_neg hg])
/-! what is learnt -/
theorem popc_lt {x n : Int} (hn : 0 ≤ n ∧ n ≤ 24) (hx : 0 ≤ x ∧ x < p2 n) : popc x ≤ n := by
  have : ∀ k : Nat, sumTo (fun i => b2i (tb x i = true)) k ≤ k ∧ sumTo (fun i => b2i (tb x i = true)) k ≤ n := by
    intro k
    induction k with
    | zero => exact ⟨Int.le_refl 0, hn.1⟩
    | succ k ih =>
      rw [sumTo_succ]
      show sumTo (fun i => b2i (tb x i = true)) k + b2i (tb x (k : Int) = true) ≤ _ ∧ sumTo (fun i => b2i (tb x i = true)) k + b2i (tb x (k : Int) = true) ≤ _
      have r := b2i_rng (tb x (k : Int) = true)
      have e : (((k + 1 : Nat)) : Int) = (k : Int) + 1 := rfl
      by_cases g : n ≤ (k : Int)
      · rw [b2i_0 (show ¬ tb x (k : Int) = true by rw [tb_big hx.1 hx.2 g]; decide)]
        omega
      · omega
  rw [popc_tb hx.1]
  exact (this 24).2
theorem learnF_pop (n : Int) (l : Int → Int) (hn : 0 ≤ n ∧ n ≤ 24) : ∀ k : Nat, (0 ≤ learnF n l k ∧ learnF n l k < p2 n) ∧ popc (learnF n l k) ≤ k := by
  intro k
  induction k with
  | zero =>
    refine ⟨⟨Int.le_refl 0, p2_pos n⟩, ?_⟩
    show popc 0 ≤ 0
    decide +kernel
  | succ k ih =>
    have e := learnF_step n l (k := (k : Int)) (by omega)
    rw [show ((k + 1 : Nat) : Int) = (k : Int) + 1 by omega, e]
    split
    · exact ⟨ih.1, by omega⟩
    · rename_i q
      rcases mostP_spec n (learnF n l k) l hn.1 with ⟨z, -⟩ | ⟨z, -⟩
      · exact absurd z q
      · obtain ⟨X, hX⟩ : ∃ X, learnF n l k = X := ⟨_, rfl⟩
        rw [hX] at ih z ⊢
        obtain ⟨j, hj⟩ : ∃ j, (mostP n X l).1 = j := ⟨_, rfl⟩
        rw [hj] at z ⊢
        have p24 := p2_24 hn.2
        have pl := p2_lt z.1 z.2
        have pp := p2_pos j
        cases ht : tb X j with
        | false =>
          have a := tb_add ih.1.1 ih.1.2 z.1 z.2 (by omega) ht
          rw [a.2.1]
          refine ⟨a.1, ?_⟩
          have tt : tb (X + p2 j) j = true := by
            rw [a.2.2 j z.1, decide_eq_true rfl, Bool.or_true]
          have e := popc_sub a.1.1 z.1 (by omega) tt
          rw [show X + p2 j - p2 j = X by omega] at e
          omega
        | true =>
          have o := or32_b (x := X) (y := p2 j) (b := n) ih.1.1 ih.1.2 (by omega) (by omega) (by omega)
          have e : or32 X (shl32 1 j) = X := by
            rw [shl1_eq z.1 (by omega)]
            refine tb_ext o.1.1 ih.1.1 (fun i i0 => ?_)
            rw [o.2, tb_p2 z.1 i0]
            by_cases y : j = i
            · rw [← y, ht, Bool.true_or]
            · rw [decide_eq_false y, Bool.or_false]
          rw [e]
          exact ⟨ih.1, by omega⟩
theorem am_learn (w : IX sc ls lw n ng im t b) (ht : t ≤ 1000) (k : Int) (hk : 0 ≤ k ∧ k ≤ 24) : con 0 bX11_learn 4 [(2, 0), (0, k)] b (fun v m => (0 ≤ v ∧ v ≤ k ∧ v ≤ n) ∧ v = bcS (m 47 0) ∧ IX sc ls lw n ng im t m) := by
  obtain ⟨n1, n2, n3⟩ := id w.2.2.2.2.1
  have hn := w.nn
  refine con.mono (c_X11_learn b k (R32_of (by omega) (by omega)) (fun i i0 i1 => by have := (n3 i i0 i1).1; omega)) (fun v m q => ?_)
  rw [if_neg (by rw [w.size]; omega), if_neg (by rw [w.size]; omega), learnF_more n (b 48) k (by omega) (fun i i0 i1 => (n3 i (by omega) i1).2 i0)] at q
  have L := learnF_pop n (b 48) (by omega) k.toNat
  rw [show ((k.toNat : Nat) : Int) = k by omega] at L
  have p24 := p2_24 (show n ≤ 24 by omega)
  have pl := popc_lt (show 0 ≤ n ∧ n ≤ 24 by omega) L.1
  have pb := popc_nn (learnF n (b 48) k)
  refine ⟨?_, ?_, ?_⟩
  · rw [q.1, bcS_eq L.1.1 (by omega)]
    omega
  · rw [q.2, mset_same]
    exact q.1
  · rw [q.2]
    exact IX_marks w L.1
theorem am_image (w : IX sc ls lw n ng im t b) : con 0 bX11_image 4 [(2, 0)] b (fun v m => v = bcS (m 47 0) ∧ IX sc ls lw n ng v t m) := by
  obtain ⟨n1, n2, n3⟩ := id w.2.2.2.2.1
  have hn := w.nn
  refine con.mono (c_X11_image b) (fun v m q => ?_)
  rw [if_neg (by rw [w.size]; omega), if_neg (by rw [w.size]; omega)] at q
  have k47 : ∀ j, j ≠ 4 → j ≠ 5 → m 47 j = b 47 j := fun j j1 j2 => by
    rw [q.2]
    unfold imgX
    rw [mrow_ne (by decide), mset_at, if_neg j2, mset_at, if_neg j1]
  have f : ∀ a, a ≠ 47 → a ≠ 49 → m a = b a := fun a a1 a2 => by
    rw [q.2]
    unfold imgX
    rw [mrow_ne a2, mset_ne a1, mset_ne a1]
  have e5 : m 47 5 = b 47 0 := by
    rw [q.2]
    unfold imgX
    rw [mrow_ne (by decide), mset_same]
  have e4 : m 47 4 = 1 := by
    rw [q.2]
    unfold imgX
    rw [mrow_ne (by decide), mset_at, if_neg (by decide), mset_same]
  refine ⟨by rw [q.1, k47 0 (by decide) (by decide)], IX_notes w (fun a a1 _ a2 _ _ _ => f a a1 a2) ?_ ?_⟩
  · unfold jNotes
    rw [k47 0 (by decide) (by decide), k47 2 (by decide) (by decide), f 48 (by decide) (by decide)]
    exact ⟨n1, n2, n3⟩
  · refine Or.inr ⟨by rw [e4]; decide, by rw [e5]; exact n1, by rw [q.1, e5], fun i i0 i1 => ?_⟩
    have z : m 49 i = b 48 i := by
      rw [q.2]
      unfold imgX
      rw [mrow_same, if_pos ⟨i0, i1⟩]
    rw [z]
    exact n3 i i0 i1
theorem am_back (w : IX sc ls lw n ng im t b) : con 0 bX11_back 4 [(2, 0)] b (fun v m => v = im ∧ IX sc ls lw n ng im t m) := by
  obtain ⟨n1, n2, n3⟩ := id w.2.2.2.2.1
  have hI : jImg n im t b := w.2.2.2.2.2
  have hn := w.nn
  refine con.mono (c_X11_back b) (fun v m q => ?_)
  rcases id hI with ⟨r1, r2⟩ | ⟨r1, r2, r3, r4⟩
  · rw [if_pos r1, if_pos r1] at q
    exact ⟨by rw [q.1, r2], by rw [q.2]; exact w⟩
  · rw [if_neg r1, if_neg r1] at q
    have k47 : ∀ j, j ≠ 0 → m 47 j = b 47 j := fun j j1 => by
      rw [q.2]
      unfold backX
      rw [mrow_ne (by decide), mset_at, if_neg j1]
    have f : ∀ a, a ≠ 47 → a ≠ 48 → m a = b a := fun a a1 a2 => by
      rw [q.2]
      unfold backX
      rw [mrow_ne a2, mset_ne a1]
    have e0 : m 47 0 = b 47 5 := by
      rw [q.2]
      unfold backX
      rw [mrow_ne (by decide), mset_same]
    refine ⟨by rw [q.1, r3], IX_notes w (fun a a1 a2 _ _ _ _ => f a a1 a2) ?_ ?_⟩
    · refine ⟨by rw [e0]; exact r2, by rw [k47 2 (by decide)]; exact n2, fun i i0 i1 => ?_⟩
      have z : m 48 i = b 49 i := by
        rw [q.2]
        unfold backX
        rw [mrow_same, if_pos ⟨i0, i1⟩]
      rw [z]
      exact r4 i i0 i1
    · unfold jImg
      rw [k47 4 (by decide), k47 5 (by decide), f 49 (by decide) (by decide)]
      exact hI
end
