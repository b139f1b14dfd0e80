/-! steps of the law: a law held, a text taken -/
theorem let_eq {mx mm : mmM} {i b n : Int} (hn : mx 23 1 = n) (hi : 0 ≤ i ∧ i < n) (e24 : mx 24 i = mm 79 i) (e26 : mx 26 i = mm 81 i) (e29 : mx 29 i = gapF (mm 79) i) (e30 : mx 30 i = likesF (mm 65 27) (mm 79) (cueF (mm 80)) i) (hb : b = 0 ∨ b = 1) : (fun k => letterX mx (leF k) i b) = letM mm i b := by
  funext k
  unfold letterX
  rw [hn, if_pos hi]
  unfold leF letM
  by_cases h0 : k = 0
  · rw [if_pos h0, if_pos h0, if_pos rfl]
    exact e24
  · rw [if_neg h0, if_neg h0]
    by_cases h1 : k = 1
    · rw [if_pos h1, if_pos h1, if_neg (by decide), if_pos rfl]
    · rw [if_neg h1, if_neg h1]
      by_cases h2 : k = 2
      · rw [if_pos h2, if_pos h2, if_neg (by decide), if_neg (by decide), if_pos rfl]
        exact e26
      · rw [if_neg h2, if_neg h2]
        by_cases h3 : k = 3
        · rw [if_pos h3, if_pos h3, if_neg (by decide), if_neg (by decide), if_neg (by decide), if_pos rfl]
          exact e29
        · rw [if_neg h3, if_neg h3]
          by_cases h4 : k = 4
          · rw [if_pos h4, if_pos h4, if_neg (by decide), if_neg (by decide), if_neg (by decide), if_neg (by decide), if_pos rfl]
            exact e30
          · rw [if_neg h4, if_neg h4, if_neg (by decide), if_neg (by decide), if_neg (by decide), if_neg (by decide), if_neg (by decide)]
            rcases hb with hb | hb
            · rw [if_pos hb, hb]
            · rw [if_neg (by omega), hb]
theorem percS_eq (z : Int) : percS z = max 0 (min 100 z) := by
  unfold percS
  (repeat' split) <;> omega
theorem per_eq {ls : Nat → lawT} {mx mm : mmM} {i b n x : Int} {cl : lawT} (hx : mm 65 28 = x) (hc : ¬ x = -1 → cl = ls x.toNat) (hl : (fun k => letterX mx (leF k) i b) = letM mm i b) : (if x = -1 then 0 else percS (lawV (fun k => letterX mx (leF k) i b) cl)) = perM ls mm i b := by
  unfold perM
  rw [hx, hl]
  by_cases z : x = -1
  · rw [if_pos z, if_pos z]
  · rw [if_neg z, if_neg z, percS_eq, hc z]
section
variable {sc : Int → Int} {ls : Nat → lawT} {t : Int} {mem m m1 m2 : mmM}
theorem Inv.letB (w : Inv sc ls t m) : ∀ i b k, 0 ≤ i → i < m 23 1 → (b = 0 ∨ b = 1) → -1000000 ≤ letterX m (leF k) i b ∧ letterX m (leF k) i b ≤ 1000000 := by
  intro i b k i0 i1 hb
  have n := w.n
  have := letterX_bnd (mem := m) w.nX (fun j j0 j1 => by
    have a := w.act j j0 j1
    have l := w.len j j0 j1
    rw [w.size] at j1
    have r := (w.row j j0 j1).2.2.2
    have g := gapF_bnd (a := m 79) j0
    have lk := likesF_bnd (m 65 27) (m 79) (cueF (m 80)) j n.1
    rw [r.1, r.2]
    exact ⟨a, by omega, by omega, by omega⟩) (leF k) i b
  omega
theorem Inv.lawAt (w : Inv sc ls t m) {k : Nat} (h : (k : Int) < m 0 11) : (0 ≤ m (11 + 3 * k) 1 ∧ m (11 + 3 * k) 1 ≤ 160) ∧ lawX (m (12 + 3 * k)) (m (11 + 3 * k) 1) 0 (ls k) := (w.2.1.2.2.2.2 k h).1
theorem c_X11_law_no (mem : mmM) (x : Int) (hx : R32 x) (h : ¬ (-1 ≤ x ∧ x < mem 0 11)) : con 0 bX11_law 6 [(2, 0), (0, x)] mem (fun v m => v = 0 ∧ m = mem) := cn_X11_law (bk_X11_law_0 (d1 := 0) (d2 := 0) (P1 := fun _ _ => True) (P2 := fun _ => True) (fun g g2 => absurd ⟨g, g2⟩ h) (fun g g2 => absurd ⟨g, g2⟩ h) (fun _ => ⟨rfl, rfl⟩) (fun g g2 => absurd ⟨g, g2⟩ h) (fun _ _ => ⟨rfl, rfl⟩))
theorem hold_law {mx mb : mmM} {x : Int} {cl : lawT} (h : holdP mx x cl mb) {k : Nat} (hk : k < 4) : mb (11 + 3 * k) 1 = mx (11 + 3 * k) 1 ∧ mb (12 + 3 * k) = mx (12 + 3 * k) := by
  obtain ⟨-, -, -, ⟨a1, a2, a3, a4⟩, ⟨b1, b2, b3, b4⟩, -⟩ := h
  have c : k = 0 ∨ k = 1 ∨ k = 2 ∨ k = 3 := by omega
  rcases c with c | c | c | c
  · subst c
    exact ⟨a1, b1⟩
  · subst c
    exact ⟨a2, b2⟩
  · subst c
    exact ⟨a3, b3⟩
  · subst c
    exact ⟨a4, b4⟩
theorem st_law (w : Inv sc ls t mem) (x : Int) (hx : R32 x) : stp 0 bX11_law 6 [(2, 0), (0, x)] bX12_law 2 [(2, 65), (0, x)] mem (Inv sc ls t) := by
  obtain ⟨i1, i2, i3, i4, i5⟩ := id w.2.1
  by_cases g : -1 ≤ x ∧ x < mem 0 11
  · refine stp_of (c3 := fun v1 m1 q => q.2.1 999 (by omega) (by decide) (by decide) (by decide)) (Q1 := fun v m => v = 1 ∧ holdP mem x (ls x.toNat) m) (con.mono (c_X11_law mem x (ls x.toNat) hx w.nX i1.2 w.letB (fun z => ?_) (fun z => ?_) (fun z => ?_) (fun z => ?_)) (fun v m q => ?_)) (fun v1 m1 q => c_X12_law m1 x hx (by rw [q.2.1 65 (by omega) (by decide) (by decide) (by decide), i2]; exact i1)) (fun v1 m1 v2 m2 q1 q2 => ?_)
    · rw [show x.toNat = 0 by omega]
      exact w.lawAt (k := 0) (by omega)
    · rw [show x.toNat = 1 by omega]
      exact w.lawAt (k := 1) (by omega)
    · rw [show x.toNat = 2 by omega]
      exact w.lawAt (k := 2) (by omega)
    · rw [show x.toNat = 3 by omega]
      exact w.lawAt (k := 3) (by omega)
    · rcases q with ⟨y, -⟩ | ⟨-, q⟩
      · exact absurd g y
      · exact q
    · obtain ⟨e1, hd⟩ := q1
      obtain ⟨e2, f2⟩ := q2
      obtain ⟨h1, h2, h3, h4, h5, h6⟩ := id hd
      have hc : ∀ a, (a < 11 ∨ 22 < a) → a ≠ 0 → a ≠ 31 → a ≠ 32 → m1 a = mem a := h1
      have c65 : m1 65 = mem 65 := hc 65 (by omega) (by decide) (by decide) (by decide)
      rw [c65, i2, if_pos g] at e2 f2
      refine ⟨e1.trans e2.symm, ?_⟩
      have k2 : ∀ a, a ≠ 65 → m2 a = m1 a := fun a a1 => by rw [f2, mset_ne a1]
      have k : ∀ a, (a < 11 ∨ 22 < a) → a ≠ 0 → a ≠ 31 → a ≠ 32 → a ≠ 65 → m2 a = mem a := fun a a1 a2 a3 a4 a5 => (k2 a a5).trans (hc a a1 a2 a3 a4)
      have k65 : ∀ j, j ≠ 28 → m2 65 j = mem 65 j := fun j hj => by rw [f2, mset_at, if_neg hj, c65]
      have z28 : m2 65 28 = x := by rw [f2, mset_same]
      have z11 : m2 0 11 = mem 0 11 := by rw [k2 0 (by decide), h2 11 (by decide)]
      have z12 : m2 0 12 = x := by rw [k2 0 (by decide), h3]
      refine ⟨iTape_of (by rw [k 1 (by omega) (by decide) (by decide) (by decide) (by decide)]) (k 2 (by omega) (by decide) (by decide) (by decide) (by decide)) (k65 2 (by decide)) (k 66 (by omega) (by decide) (by decide) (by decide) (by decide)) w.1, ?_, iPlay_of (fun a ha => k a (by omega) (by omega) (by omega) (by omega) (by omega)) ⟨k65 26 (by decide), k65 27 (by decide)⟩ w.2.2.1, iLeap_of (fun a ha => k a (by omega) (by omega) (by omega) (by omega) (by omega)) (k65 27 (by decide)) w.2.2.2.1, ?_, iNotes_of (fun j _ => by rw [k 47 (by omega) (by decide) (by decide) (by decide) (by decide)]) (fun j hj => k65 j (by omega)) (k 48 (by omega) (by decide) (by decide) (by decide) (by decide)) (k 85 (by omega) (by decide) (by decide) (by decide) (by decide)) w.notes, iImage_of (fun j _ => by rw [k 47 (by omega) (by decide) (by decide) (by decide) (by decide)]) (fun j hj => k65 j (by omega)) (k 49 (by omega) (by decide) (by decide) (by decide) (by decide)) (k 98 (by omega) (by decide) (by decide) (by decide) (by decide)) w.image, iLast_of (by rw [k 47 (by omega) (by decide) (by decide) (by decide) (by decide)]) (fun j _ => by rw [k 52 (by omega) (by decide) (by decide) (by decide) (by decide)]) (k 87 (by omega) (by decide) (by decide) (by decide) (by decide)) w.last, ⟨odOr_of (k 58 (by omega) (by decide) (by decide) (by decide) (by decide)) w.odd, (k 999 (by omega) (by decide) (by decide) (by decide) (by decide)).trans w.scr⟩⟩
      · unfold iLaws
        rw [z11, z12, z28, k65 13 (by decide)]
        refine ⟨i1, i2, g, rfl, fun j hj => ?_⟩
        obtain ⟨r1, r2, r3⟩ := i5 j hj
        have hl := hold_law hd (k := j) (by omega)
        rw [k2 (11 + 3 * j) (by omega), k2 (12 + 3 * j) (by omega), hl.1, hl.2, k 70 (by omega) (by decide) (by decide) (by decide) (by decide)]
        exact ⟨r1, lawR_same (fun a ha => k a (by omega) (by omega) (by omega) (by omega) (by omega)) r3.2 r2, r3⟩
      · unfold iWorth
        intro i j0 j1
        rw [k65 27 (by decide)] at j1
        have p := h6 i j0 (by rw [w.size]; exact j1)
        have r := w.row i j0 j1
        have lm : ∀ b, letM m2 i b = letM mem i b := fun b => letM_of (fun a ha => k a (by omega) (by omega) (by omega) (by omega) (by omega)) (k65 27 (by decide)) i b
        rw [k2 31 (by decide), k2 32 (by decide), p.1, p.2]
        exact ⟨per_eq (n := mem 65 27) z28 (fun _ => rfl) (by rw [lm]; exact let_eq w.size ⟨j0, j1⟩ r.1.1 r.1.2.2.1 r.2.2.2.1 r.2.2.2.2 (Or.inl rfl)), per_eq (n := mem 65 27) z28 (fun _ => rfl) (by rw [lm]; exact let_eq w.size ⟨j0, j1⟩ r.1.1 r.1.2.2.1 r.2.2.2.1 r.2.2.2.2 (Or.inr rfl))⟩
  · refine stp_of (c_X11_law_no mem x hx g) (fun v1 m1 q => c_X12_law m1 x hx (by rw [q.2, i2]; exact i1)) (fun v1 m1 v2 m2 q1 q2 => ?_)
    obtain ⟨e1, f1⟩ := q1
    obtain ⟨e2, f2⟩ := q2
    rw [f1, i2, if_neg g] at e2 f2
    exact ⟨e1.trans e2.symm, by rw [f2]; exact w⟩
/-! a law's text taken -/
def lsPut (ls : Nat → lawT) (k : Nat) (cl : lawT) (j : Nat) : lawT := if j = k then cl else ls j
theorem lsPut_same (ls : Nat → lawT) (k : Nat) (cl : lawT) : lsPut ls k cl k = cl := if_pos rfl
theorem lsPut_ne (ls : Nat → lawT) {k j : Nat} (cl : lawT) (h : ¬ j = k) : lsPut ls k cl j = ls j := if_neg h
theorem text_law {k : Nat} {cl' : lawT} {mr mq : mmM} (w : Inv sc ls t mem) (hk : mem 0 11 = k) (hk4 : mem 0 11 < 4) (hr : lawRX mem (.inr cl') (-1) mr) (hp : putLX mr k m1) (hq : lawM m1 k (.inr cl') (-1) mq) (f2 : m2 = mset (mset mq 65 2 0) 65 13 ((k : Int) + 1)) : Inv sc (lsPut ls k cl') t m2 := by
  obtain ⟨i1, i2, i3, i4, i5⟩ := id w.2.1
  obtain ⟨-, ⟨x1, x2, x3⟩, x4, x5⟩ := hr
  obtain ⟨p1, p2', p3, p4, p5, p6, p7, p8⟩ := hp
  obtain ⟨-, fr, y4, y5, y6⟩ := hq
  obtain ⟨y1, y2, y3, y7, y8⟩ := id fr
  have hk' : k < 4 := by omega
  have c1 : ∀ a, a ≠ 0 → a ≠ 1 → a ≠ 8 → a ≠ 9 → a ≠ 11 + 3 * k → a ≠ 12 + 3 * k → m1 a = mem a := fun a a0 a1 a2 a3 a4 a5 => (p1 a a0 a1 a4 a5).trans (x1 a a1 a2 a3)
  have c2 : ∀ a, a ≠ 65 → (a < 67 ∨ 73 < a) → m2 a = m1 a := fun a a1 a2 => by rw [f2, mset_ne a1, mset_ne a1, y1 a a1 a2]
  have c : ∀ a, (a = 2 ∨ (23 ≤ a ∧ a < 65) ∨ a = 66 ∨ 73 < a) → m2 a = mem a := fun a ha => (c2 a (by omega) (by omega)).trans (c1 a (by omega) (by omega) (by omega) (by omega) (by omega) (by omega))
  have m65 : m1 65 = mem 65 := c1 65 (by decide) (by decide) (by decide) (by decide) (by omega) (by omega)
  have k65 : ∀ j, j ≠ 2 → j ≠ 3 → j ≠ 4 → j ≠ 5 → j ≠ 13 → j ≠ 14 → m2 65 j = mem 65 j := fun j j1 j2 j3 j4 j5 j6 => by rw [f2, mset_at, if_neg j5, mset_at, if_neg j1, y2 j j2 j3 j4 j6, m65]
  have z2 : m2 65 2 = 0 := by rw [f2, mset_at, if_neg (by decide), mset_same]
  have z13 : m2 65 13 = (k : Int) + 1 := by rw [f2, mset_same]
  have z11 : m2 0 11 = (k : Int) + 1 := by rw [c2 0 (by decide) (by omega), p3]
  have z12 : m2 0 12 = mem 0 12 := by rw [c2 0 (by decide) (by omega), p2' 12 (by decide), x1 0 (by decide) (by decide) (by decide)]
  have z1 : m2 1 1 = 0 := by rw [c2 1 (by decide) (by omega), p5]
  have q : ∀ a, a = 67 ∨ a = 68 ∨ a = 70 ∨ a = 71 ∨ a = 72 ∨ a = 73 → m2 a = mq a := fun a ha => by rw [f2, mset_ne (by omega), mset_ne (by omega)]
  obtain ⟨s1, s2, s3, s4⟩ := id w.1
  have k28 : m2 65 28 = mem 65 28 := k65 28 (by decide) (by decide) (by decide) (by decide) (by decide) (by decide)
  have k27 : m2 65 27 = mem 65 27 := k65 27 (by decide) (by decide) (by decide) (by decide) (by decide) (by decide)
  refine ⟨?_, ?_, iPlay_of (fun a ha => c a (by omega)) ⟨k65 26 (by decide) (by decide) (by decide) (by decide) (by decide) (by decide), k27⟩ w.2.2.1, iLeap_of (fun a ha => c a (by omega)) k27 w.2.2.2.1, ?_, iNotes_of (fun j _ => by rw [c 47 (by omega)]) (fun j hj => k65 j (by omega) (by omega) (by omega) (by omega) (by omega) (by omega)) (c 48 (by omega)) (c 85 (by omega)) w.notes, iImage_of (fun j _ => by rw [c 47 (by omega)]) (fun j hj => k65 j (by omega) (by omega) (by omega) (by omega) (by omega) (by omega)) (c 49 (by omega)) (c 98 (by omega)) w.image, iLast_of (by rw [c 47 (by omega)]) (fun j _ => by rw [c 52 (by omega)]) (c 87 (by omega)) w.last, ⟨odOr_of (c 58 (by omega)) w.odd, (c 999 (by omega)).trans w.scr⟩⟩
  · unfold iTape
    rw [z1, z2, c 66 (by omega), c 2 (by omega)]
    exact ⟨⟨by decide, by decide⟩, rfl, s3, fun i i0 i1 => ⟨(s4 i i0 i1).1, (s4 i i0 i1).2.1, fun z => by omega⟩⟩
  · unfold iLaws
    rw [z11, z12, z13, k28]
    refine ⟨by omega, rfl, by omega, i4, fun j hj => ?_⟩
    by_cases e : j = k
    · rw [e, lsPut_same, q 70 (by omega)]
      have a1 : m2 (11 + 3 * k) 1 = mr 8 2 := by rw [c2 (11 + 3 * k) (by omega) (by omega), p7]
      have a2 : ∀ i, 0 ≤ i → i < mr 8 2 → m2 (12 + 3 * k) i = mr 9 i := fun i i0 i1 => by rw [c2 (12 + 3 * k) (by omega) (by omega), p8 i i0 i1]
      rw [a1]
      exact ⟨⟨x4, lawX_congr _ _ (fun i i0 i1 => (a2 i i0 i1).symm) x5⟩, lawR_same (fun a ha => q a ha) y6 y4, y5, y6⟩
    · rw [lsPut_ne ls cl' e]
      obtain ⟨r1, r2, r3⟩ := i5 j (by omega)
      have e70 : mq 70 j = mem 70 j := by rw [(y3 j (by omega)).2, c1 70 (by decide) (by decide) (by decide) (by decide) (by omega) (by omega)]
      have mm : ∀ a, 65 ≤ a → m1 a = mem a := fun a ha => c1 a (by omega) (by omega) (by omega) (by omega) (by omega) (by omega)
      rw [c2 (11 + 3 * j) (by omega) (by omega), c2 (12 + 3 * j) (by omega) (by omega), c1 (11 + 3 * j) (by omega) (by omega) (by omega) (by omega) (by omega) (by omega), c1 (12 + 3 * j) (by omega) (by omega) (by omega) (by omega) (by omega) (by omega), q 70 (by omega), e70]
      refine ⟨r1, lawR_same (fun a ha => q a ha) (by rw [e70]; exact r3.2) (lawR_far e70 r3.2 (fun i j0 j1 => ?_) (fun i j0 j1 => ?_) _ _ (Int.le_refl _) r2), r3⟩
      · have v := y8 i (by omega)
        rw [v.1, v.2.1, v.2.2, mm 71 (by decide), mm 72 (by decide), mm 73 (by decide)]
        exact ⟨rfl, rfl, rfl⟩
      · have v := y7 i (by omega)
        rw [v.1, v.2, mm 67 (by decide), mm 68 (by decide)]
        exact ⟨rfl, rfl⟩
  · unfold iWorth
    intro i j0 j1
    rw [k27] at j1
    have pe : ∀ b, perM (lsPut ls k cl') m2 i b = perM ls mem i b := by
      intro b
      unfold perM
      rw [k28, letM_of (fun a ha => c a (by omega)) k27]
      by_cases z : mem 65 28 = -1
      · rw [if_pos z, if_pos z]
      · rw [if_neg z, if_neg z, lsPut_ne ls cl' (show ¬ (mem 65 28).toNat = k by omega)]
    rw [c 31 (by omega), c 32 (by omega), pe, pe]
    exact w.2.2.2.2.1 i j0 j1
end
