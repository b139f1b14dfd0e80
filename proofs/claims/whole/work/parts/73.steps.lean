/-! steps of the law: what changes the notes, the tape, the leaps -/
theorem apN_all {r s r' s' : Nat} {j j' : Int} (hrs : s ≠ r) (hrs' : s' ≠ r') (B : Nat → Int) {m m' : mmM} (hs : m s j = m' s' j') (hr : ∀ i, i < 160 → m r i = m' r' i) : ∀ k : Nat, ∀ i, i < 160 → apN r s j B m k r i = apN r' s' j' B m' k r' i := by
  intro k
  induction k with
  | zero => exact hr
  | succ k ih =>
    intro i i1
    show ap1 r s j (B k) (apN r s j B m k) r i = ap1 r' s' j' (B k) (apN r' s' j' B m' k) r' i
    rw [ap1_row hrs, ap1_row hrs', apN_size hrs, apN_size hrs', hs]
    by_cases q : B k = 0
    · rw [if_pos q, if_pos q]
      exact ih i i1
    · rw [if_neg q, if_neg q]
      unfold updF
      split
      · rfl
      · exact ih i i1
theorem xor_b24 {z k : Int} (hz : 0 ≤ z ∧ z < 16777216) (hk : 0 ≤ k ∧ k < 24) : 0 ≤ xor32 z (shl32 1 k) ∧ xor32 z (shl32 1 k) < 16777216 := by
  by_cases h : and32 (shr32 z k) 1 = 1
  · have hb := (bit_iff hz.1 (by omega) hk.1 (by omega)).mp h
    have e := xor32_bit hz.1 (by omega) hk.1 (by omega) hb
    have ht := (tb_sub hz.1 hk.1 ((bit_tb hz.1 (by omega) hk.1 (by omega)).mp h)).1
    rw [e]
    omega
  · have e := xor32_set hz.1 hz.2 hk.1 hk.2 h
    rw [e.1]
    exact e.2.2
theorem learnF_b24 (n : Int) (l : Int → Int) (hn : 0 ≤ n ∧ n ≤ 24) : ∀ k : Nat, 0 ≤ learnF n l k ∧ learnF n l k < 16777216 := by
  intro k
  induction k with
  | zero => exact ⟨Int.le_refl 0, by show (0 : Int) < 16777216; decide⟩
  | succ k ih =>
    have e := learnF_step n l (k := (k : Int)) (by omega)
    rw [show ((k + 1 : Nat) : Int) = (k : Int) + 1 by omega, e]
    split
    · exact ih
    · rename_i q
      rcases mostP_spec n (learnF n l k) l hn.1 with ⟨z, -⟩ | ⟨z, -⟩
      · exact absurd z q
      · exact (met_step ih ⟨z.1, by omega⟩).1
theorem learnF_more (n : Int) (l : Int → Int) (x : Int) (hn : 0 ≤ n ∧ n ≤ 24) (hl : ∀ i, n ≤ i → i < 24 → l i = 0) : learnF 24 l x = learnF n l x := foldTo_congr (fun i mk _ _ => by simp only [mostP_more n 24 mk l hn.1 hn.2 hl])
section
variable {sc : Int → Int} {ls : Nat → lawT} {t : Int} {mem m m1 m2 : mmM}
theorem Inv_notes {t' : Int} (w : Inv sc ls t mem) (hc : ∀ a, a ≠ 47 → a ≠ 48 → a ≠ 49 → a ≠ 52 → a ≠ 65 → a ≠ 85 → a ≠ 87 → a ≠ 98 → keepC a → m a = mem a) (h1 : m 1 1 = mem 1 1) (h65 : ∀ j, j = 2 ∨ j = 13 ∨ (26 ≤ j ∧ j ≤ 28) → m 65 j = mem 65 j) (ho : iOdd sc m) (n : iNotes t' m) (im : iImage t' m) (la : iLast m) : Inv sc ls t' m := by
  obtain ⟨w1, w2, w3, w4, w5, -⟩ := w
  have k := w2.1
  have c : ∀ a, (a = 0 ∨ a = 2 ∨ (11 ≤ a ∧ a ≤ 32) ∨ (36 ≤ a ∧ a ≤ 38) ∨ (66 ≤ a ∧ a ≤ 68) ∨ (70 ≤ a ∧ a ≤ 73) ∨ (79 ≤ a ∧ a ≤ 84)) → m a = mem a := fun a ha => hc a (by omega) (by omega) (by omega) (by omega) (by omega) (by omega) (by omega) (by omega) (by unfold keepC; omega)
  exact ⟨iTape_of h1 (c 2 (by omega)) (h65 2 (by omega)) (c 66 (by omega)) w1, iLaws_of (fun j _ => by rw [c 0 (by omega)]) (fun k hk => ⟨by rw [c (11 + 3 * k) (by omega)], c (12 + 3 * k) (by omega)⟩) (fun j hj => h65 j (by omega)) (fun a ha => c a (by omega)) w2, iPlay_of (fun a ha => c a (by omega)) ⟨h65 26 (by omega), h65 27 (by omega)⟩ w3, iLeap_of (fun a ha => c a (by omega)) (h65 27 (by omega)) w4, iWorth_of (fun a ha => c a (by omega)) (h65 27 (by omega)) (h65 28 (by omega)) w5, n, im, la, ho⟩
theorem Inv.playHi (w : Inv sc ls t mem) (hm : ∀ a, 65 ≤ a → m1 a = mem a) : playM m1 := playM_congr w.play (by rw [hm 65 (by decide)]) (hm 79 (by decide)) (hm 80 (by decide)) (hm 81 (by decide))
theorem Inv.image (w : Inv sc ls t m) : iImage t m := w.2.2.2.2.2.2.1
theorem Inv.last (w : Inv sc ls t m) : iLast m := w.2.2.2.2.2.2.2.1
theorem st_mark (w : Inv sc ls t mem) (x y : Int) (hx : R32 x) (hy : R32 y) : stp 0 bX11_mark 2 [(2, 0), (0, x), (0, y)] bX12_mark 3 [(2, 65), (0, x), (0, y)] mem (Inv sc ls t) := stp_of (c3 := fun v1 m1 q => by
  rw [q.2]
  split
  · rw [mset_ne (by decide)]
  · rfl) (c_X11_mark mem x y hx hy) (fun v1 m1 q => c_X12_mark m1 x y hx hy (w.playHi (fun a ha => by
  rw [q.2]
  split
  · exact mset_ne (by omega)
  · rfl))) (fun v1 m1 v2 m2 q1 q2 => by
  obtain ⟨e1, f1⟩ := q1
  obtain ⟨e2, f2⟩ := q2
  have h65 : m1 65 = mem 65 := by
    rw [f1]
    split
    · exact mset_ne (by decide)
    · rfl
  rw [h65, w.marks, ← w.size] at e2 f2
  by_cases c : (0 ≤ x ∧ x < mem 23 1) ∧ ¬ b2i (and32 (shr32 (mem 47 0) x) 1 = 1) = y
  · rw [if_pos c] at e1 f1 e2 f2
    refine ⟨by rw [e1, e2], ?_⟩
    have nx := w.nX
    have zb := xor_b24 w.notes.1.1 (k := x) ⟨c.1.1, by omega⟩
    obtain ⟨z, hz⟩ : ∃ z, xor32 (mem 47 0) (shl32 1 x) = z := ⟨_, rfl⟩
    rw [hz] at f1 f2 zb
    have k : ∀ a, a ≠ 47 → a ≠ 65 → m2 a = mem a := fun a a1 a2 => by rw [f2, f1, mset_ne a2, mset_ne a1]
    have k47 : ∀ j, j ≠ 0 → m2 47 j = mem 47 j := fun j hj => by rw [f2, f1, mset_ne (by decide), mset_at, if_neg hj]
    have k65 : ∀ j, j ≠ 31 → m2 65 j = mem 65 j := fun j hj => by rw [f2, f1, mset_at, if_neg hj, mset_ne (by decide)]
    have z47 : m2 47 0 = z := by rw [f2, f1, mset_ne (by decide), mset_same]
    have z65 : m2 65 31 = z := by rw [f2, mset_same]
    obtain ⟨n1, n2, n3, n4⟩ := w.notes
    refine Inv_notes w (fun a a1 _ _ _ a2 _ _ _ _ => k a a1 a2) (by rw [k 1 (by decide) (by decide)]) (fun j hj => k65 j (by omega)) (⟨odOr_of (k 58 (by decide) (by decide)) w.odd, (k 999 (by decide) (by decide)).trans w.scr⟩) ?_ (iImage_of (fun j hj => k47 j (by omega)) (fun j hj => k65 j (by omega)) (k 49 (by decide) (by decide)) (k 98 (by decide) (by decide)) w.image) (iLast_of (k47 2 (by decide)) (fun j _ => by rw [k 52 (by decide) (by decide)]) (k 87 (by decide) (by decide)) w.last)
    unfold iNotes
    rw [z47, z65, k47 1 (by decide), k47 2 (by decide), k65 27 (by decide), k65 32 (by decide), k65 34 (by decide), k65 45 (by decide), k 48 (by decide) (by decide), k 85 (by decide) (by decide)]
    exact ⟨⟨zb, rfl⟩, n2, n3, n4⟩
  · rw [if_neg c] at e1 f1 e2 f2
    exact ⟨by rw [e1, e2], by rw [f2, f1]; exact w⟩)
theorem st_could (w : Inv sc ls t mem) (x : Int) (hx : R32 x) : stp 0 bX11_could 2 [(2, 0), (0, x)] bX12_could 3 [(2, 65), (0, x)] mem (Inv sc ls t) := stp_of (c3 := fun v1 m1 q => by
  rw [q.2]
  split
  · rw [mset_ne (by decide)]
  · rfl) (c_X11_could mem x hx w.nX) (fun v1 m1 q => c_X12_could m1 x hx (w.playHi (m1 := m1) (fun a ha => by
  rw [q.2]
  split
  · exact mset_ne (by omega)
  · rfl)).1) (fun v1 m1 v2 m2 q1 q2 => by
  obtain ⟨e1, f1⟩ := q1
  obtain ⟨e2, f2⟩ := q2
  have h65 : m1 65 = mem 65 := by
    rw [f1]
    split
    · exact mset_ne (by decide)
    · rfl
  have n2 := w.notes.2.1
  rw [h65, n2.2.1, ← w.size] at e2 f2
  by_cases c : (0 ≤ x ∧ x < mem 23 1) ∧ ¬ (and32 (shr32 (mem 47 1) x) 1 = 1) ∧ bcS (mem 47 1) < 10
  · have c' : (0 ≤ x ∧ x < mem 23 1) ∧ ¬ (and32 (shr32 (mem 47 1) x) 1 = 1) ∧ ¬ bcS (mem 47 1) = 10 := ⟨c.1, c.2.1, by have := c.2.2; omega⟩
    rw [if_pos c] at e1 f1
    rw [if_pos c'] at e2 f2
    refine ⟨by rw [e1, e2], ?_⟩
    have nx := w.nX
    have zb := (met_step n2.1 (i := x) ⟨c.1.1, by omega⟩).1
    have zs := xor32_set n2.1.1 n2.1.2 c.1.1 (show x < 24 by omega) c.2.1
    have hbit : ¬ bitS (mem 47 1) x := fun y => c.2.1 ((bit_iff n2.1.1 (by omega) c.1.1 (by omega)).mpr y)
    have zo := or32_bit n2.1.1 (by omega) c.1.1 (show x < 31 by omega) hbit
    have zp : bcS (mem 47 1 + p2 x) = bcS (mem 47 1) + 1 := by
      rw [bcS_eq zs.2.2.1 zs.2.2.2, bcS_eq n2.1.1 n2.1.2]
      have tx : tb (mem 47 1 + p2 x) x = true := by
        have ta := tb_add (b := 24) n2.1.1 (by rw [show p2 24 = 16777216 by decide +kernel]; exact n2.1.2) c.1.1 (show x < 24 by omega) (by decide) (Bool.eq_false_iff.mpr (fun y => c.2.1 ((bit_tb n2.1.1 (by omega) c.1.1 (by omega)).mpr y)))
        rw [ta.2.2 x c.1.1, decide_eq_true rfl, Bool.or_true]
      have := popc_sub zs.2.2.1 c.1.1 (show x < 24 by omega) tx
      rw [show mem 47 1 + p2 x - p2 x = mem 47 1 by omega] at this
      omega
    obtain ⟨z, hz⟩ : ∃ z, or32 (mem 47 1) (shl32 1 x) = z := ⟨_, rfl⟩
    rw [zo] at hz
    rw [zo, hz] at f1 f2 zb
    rw [hz] at zp
    have k : ∀ a, a ≠ 47 → a ≠ 65 → m2 a = mem a := fun a a1 a2 => by rw [f2, f1, mset_ne a2, mset_ne a1]
    have k47 : ∀ j, j ≠ 1 → m2 47 j = mem 47 j := fun j hj => by rw [f2, f1, mset_ne (by decide), mset_at, if_neg hj]
    have k65 : ∀ j, j ≠ 32 → m2 65 j = mem 65 j := fun j hj => by rw [f2, f1, mset_at, if_neg hj, mset_ne (by decide)]
    have z47 : m2 47 1 = z := by rw [f2, f1, mset_ne (by decide), mset_same]
    have z65 : m2 65 32 = z := by rw [f2, mset_same]
    obtain ⟨n1, -, n3, n4⟩ := w.notes
    refine Inv_notes w (fun a a1 _ _ _ a2 _ _ _ _ => k a a1 a2) (by rw [k 1 (by decide) (by decide)]) (fun j hj => k65 j (by omega)) (⟨odOr_of (k 58 (by decide) (by decide)) w.odd, (k 999 (by decide) (by decide)).trans w.scr⟩) ?_ (iImage_of (fun j hj => k47 j (by omega)) (fun j hj => k65 j (by omega)) (k 49 (by decide) (by decide)) (k 98 (by decide) (by decide)) w.image) (iLast_of (k47 2 (by decide)) (fun j _ => by rw [k 52 (by decide) (by decide)]) (k 87 (by decide) (by decide)) w.last)
    unfold iNotes
    rw [z47, z65, k47 0 (by decide), k47 2 (by decide), k65 27 (by decide), k65 31 (by decide), k65 34 (by decide), k65 45 (by decide), k 48 (by decide) (by decide), k 85 (by decide) (by decide)]
    exact ⟨n1, ⟨zb, rfl, by rw [zp]; omega⟩, n3, n4⟩
  · have c' : ¬ ((0 ≤ x ∧ x < mem 23 1) ∧ ¬ (and32 (shr32 (mem 47 1) x) 1 = 1) ∧ ¬ bcS (mem 47 1) = 10) := fun y => c ⟨y.1, y.2.1, by have := y.2.2; have := n2.2.2; omega⟩
    rw [if_neg c] at e1 f1
    rw [if_neg c'] at e2 f2
    exact ⟨by rw [e1, e2], by rw [f2, f1]; exact w⟩)
theorem st_learn (w : Inv sc ls t mem) (ht : 0 ≤ t ∧ t ≤ 1000) (x : Int) (hx : R32 x) : stp 0 bX11_learn 4 [(2, 0), (0, x)] bX12_learn 2 [(2, 65), (0, x)] mem (Inv sc ls t) := stp_of (c3 := fun v1 m1 q => by
  rw [q.2]
  split
  · rfl
  · rw [mset_ne (by decide)]) (c_X11_learn mem x hx (fun i i0 i1 => by have := (w.notes.2.2.2 i i0 i1).1; omega)) (fun v1 m1 q => c_X12_learn m1 x hx (w.playHi (fun a ha => by
  rw [q.2]
  split
  · rfl
  · exact mset_ne (by omega)))) (fun v1 m1 v2 m2 q1 q2 => by
  obtain ⟨e1, f1⟩ := q1
  obtain ⟨e2, f2⟩ := q2
  have h65 : ∀ a, 65 ≤ a → m1 a = mem a := by
    intro a ha
    rw [f1]
    split
    · rfl
    · exact mset_ne (by omega)
  have nn := w.n
  have eL : learnF 24 (mem 48) x = learnF (mem 65 27) (mem 85) x := by
    rw [learnF_more (mem 65 27) (mem 48) x nn (fun i i0 i1 => (w.notes.2.2.2 i (by omega) i1).2.2.2 i0)]
    exact learnF_congr (fun i i0 i1 => ((w.notes.2.2.2 i i0 (by omega)).2.2.1 i1).symm)
  rw [h65 65 (by decide), h65 85 (by decide)] at e2 f2
  rw [w.size, eL] at e1 f1
  by_cases c : mem 65 27 = 0 ∨ ¬ (0 ≤ x ∧ x ≤ 24)
  · rw [if_pos c] at e1 f1 e2 f2
    exact ⟨by rw [e1, e2], by rw [f2, f1]; exact w⟩
  · rw [if_neg c] at e1 f1 e2 f2
    refine ⟨by rw [e1, e2], ?_⟩
    have zb := learnF_b24 (mem 65 27) (mem 85) nn x.toNat
    rw [show ((x.toNat : Nat) : Int) = x by omega] at zb
    obtain ⟨z, hz⟩ : ∃ z, learnF (mem 65 27) (mem 85) x = z := ⟨_, rfl⟩
    rw [hz] at f1 f2 zb
    have k : ∀ a, a ≠ 47 → a ≠ 65 → m2 a = mem a := fun a a1 a2 => by rw [f2, f1, mset_ne a2, mset_ne a1]
    have k47 : ∀ j, j ≠ 0 → m2 47 j = mem 47 j := fun j hj => by rw [f2, f1, mset_ne (by decide), mset_at, if_neg hj]
    have k65 : ∀ j, j ≠ 31 → m2 65 j = mem 65 j := fun j hj => by rw [f2, f1, mset_at, if_neg hj, mset_ne (by decide)]
    have z47 : m2 47 0 = z := by rw [f2, f1, mset_ne (by decide), mset_same]
    have z65 : m2 65 31 = z := by rw [f2, mset_same]
    obtain ⟨n1, n2, n3, n4⟩ := w.notes
    refine Inv_notes w (fun a a1 _ _ _ a2 _ _ _ _ => k a a1 a2) (by rw [k 1 (by decide) (by decide)]) (fun j hj => k65 j (by omega)) (⟨odOr_of (k 58 (by decide) (by decide)) w.odd, (k 999 (by decide) (by decide)).trans w.scr⟩) ?_ (iImage_of (fun j hj => k47 j (by omega)) (fun j hj => k65 j (by omega)) (k 49 (by decide) (by decide)) (k 98 (by decide) (by decide)) w.image) (iLast_of (k47 2 (by decide)) (fun j _ => by rw [k 52 (by decide) (by decide)]) (k 87 (by decide) (by decide)) w.last)
    unfold iNotes
    rw [z47, z65, k47 1 (by decide), k47 2 (by decide), k65 27 (by decide), k65 32 (by decide), k65 34 (by decide), k65 45 (by decide), k 48 (by decide) (by decide), k 85 (by decide) (by decide)]
    exact ⟨⟨zb, rfl⟩, n2, n3, n4⟩)
theorem imgX_ne {a : Nat} (h : a ≠ 47) (h2 : a ≠ 49) : imgX mem a = mem a := by
  unfold imgX
  rw [mrow_ne h2, mset_ne h, mset_ne h]
theorem backX_ne {a : Nat} (h : a ≠ 47) (h2 : a ≠ 48) : backX mem a = mem a := by
  unfold backX
  rw [mrow_ne h2, mset_ne h]
theorem imgM_ne {a : Nat} (h : a ≠ 65) (h2 : a ≠ 98) : imgM mem a = mem a := by
  unfold imgM
  rw [mset_ne h, mset_ne h, rowTo_ne _ _ _ h2]
theorem backM_ne {a : Nat} (h : a ≠ 65) (h2 : a ≠ 85) : backM mem a = mem a := by
  unfold backM
  rw [mset_ne h, rowTo_ne _ _ _ h2]
theorem st_image (w : Inv sc ls t mem) : stp 0 bX11_image 4 [(2, 0)] bX12_image 2 [(2, 65)] mem (Inv sc ls t) := stp_of (c3 := fun v1 m1 q => by
  rw [q.2]
  split
  · rfl
  · rw [imgX_ne (by decide) (by decide)]) (c_X11_image mem) (fun v1 m1 q => c_X12_image m1 (w.playHi (fun a ha => by
  rw [q.2]
  split
  · rfl
  · exact imgX_ne (by omega) (by omega)))) (fun v1 m1 v2 m2 q1 q2 => by
  obtain ⟨e1, f1⟩ := q1
  obtain ⟨e2, f2⟩ := q2
  have hi : ∀ a, 65 ≤ a → m1 a = mem a := by
    intro a ha
    rw [f1]
    split
    · rfl
    · exact imgX_ne (by omega) (by omega)
  rw [hi 65 (by decide)] at e2 f2
  rw [w.size] at e1 f1
  by_cases c : mem 65 27 = 0
  · rw [if_pos c] at e1 f1 e2 f2
    exact ⟨by rw [e1, e2], by rw [f2, f1]; exact w⟩
  · rw [if_neg c] at e1 f1 e2 f2
    refine ⟨by rw [e1, e2, w.marks], ?_⟩
    have k : ∀ a, a ≠ 47 → a ≠ 49 → a ≠ 65 → a ≠ 98 → m2 a = mem a := fun a a1 a2 a3 a4 => by rw [f2, imgM_ne a3 a4, f1, imgX_ne a1 a2]
    have k47 : ∀ j, j ≠ 4 → j ≠ 5 → m2 47 j = mem 47 j := fun j j1 j2 => by
      rw [f2, imgM_ne (by decide) (by decide), f1]
      unfold imgX
      rw [mrow_ne (by decide), mset_at, if_neg j2, mset_at, if_neg j1]
    have k65 : ∀ j, j ≠ 57 → j ≠ 58 → m2 65 j = mem 65 j := fun j j1 j2 => by
      rw [f2]
      unfold imgM
      rw [mset_at, if_neg j2, mset_at, if_neg j1, rowTo_ne _ _ _ (by decide), hi 65 (by decide)]
    have a4 : m2 47 4 = 1 := by
      rw [f2, imgM_ne (by decide) (by decide), f1]
      unfold imgX
      rw [mrow_ne (by decide), mset_at, if_neg (by decide), mset_same]
    have a5 : m2 47 5 = mem 47 0 := by
      rw [f2, imgM_ne (by decide) (by decide), f1]
      unfold imgX
      rw [mrow_ne (by decide), mset_same]
    have a57 : m2 65 57 = mem 47 0 := by
      rw [f2]
      unfold imgM
      rw [mset_at, if_neg (by decide), mset_same, hi 65 (by decide), w.marks]
    have a58 : m2 65 58 = 1 := by
      rw [f2]
      unfold imgM
      rw [mset_same]
    have a49 : ∀ i, 0 ≤ i → i < 24 → m2 49 i = mem 48 i := fun i i0 i1 => by
      rw [f2, imgM_ne (by decide) (by decide), f1]
      unfold imgX
      rw [mrow_same, if_pos ⟨i0, i1⟩]
    have a98 : ∀ i, 0 ≤ i → i < mem 65 27 → m2 98 i = mem 85 i := fun i i0 i1 => by
      rw [f2]
      unfold imgM
      rw [mset_ne (by decide), mset_ne (by decide), rowTo_in _ _ _ ⟨i0, by rw [hi 65 (by decide)]; exact i1⟩, hi 85 (by decide)]
    obtain ⟨n1, n2, n3, n4⟩ := w.notes
    refine Inv_notes w (fun a a1 _ a2 _ a3 _ _ a4 _ => k a a1 a2 a3 a4) (by rw [k 1 (by decide) (by decide) (by decide) (by decide)]) (fun j hj => k65 j (by omega) (by omega)) (⟨odOr_of (k 58 (by decide) (by decide) (by decide) (by decide)) w.odd, (k 999 (by decide) (by decide) (by decide) (by decide)).trans w.scr⟩) (iNotes_of (fun j hj => k47 j (by omega) (by omega)) (fun j hj => k65 j (by omega) (by omega)) (k 48 (by decide) (by decide) (by decide) (by decide)) (k 85 (by decide) (by decide) (by decide) (by decide)) w.notes) ?_ (iLast_of (k47 2 (by decide) (by decide)) (fun j _ => by rw [k 52 (by decide) (by decide) (by decide) (by decide)]) (k 87 (by decide) (by decide) (by decide) (by decide)) w.last)
    unfold iImage
    rw [a4, a5, a57, a58, k65 27 (by decide) (by decide)]
    refine ⟨Iff.rfl, fun _ => ⟨⟨n1.1, rfl⟩, fun i i0 i1 => ?_⟩⟩
    have q := n4 i i0 i1
    rw [a49 i i0 i1]
    exact ⟨q.1, fun z => by rw [a98 i i0 z]; exact q.2.2.1 z, q.2.2.2⟩)
theorem st_back (w : Inv sc ls t mem) : stp 0 bX11_back 4 [(2, 0)] bX12_back 2 [(2, 65)] mem (Inv sc ls t) := stp_of (c3 := fun v1 m1 q => by
  rw [q.2]
  split
  · rfl
  · rw [backX_ne (by decide) (by decide)]) (c_X11_back mem) (fun v1 m1 q => c_X12_back m1 (w.playHi (fun a ha => by
  rw [q.2]
  split
  · rfl
  · exact backX_ne (by omega) (by omega)))) (fun v1 m1 v2 m2 q1 q2 => by
  obtain ⟨e1, f1⟩ := q1
  obtain ⟨e2, f2⟩ := q2
  have hi : ∀ a, 65 ≤ a → m1 a = mem a := by
    intro a ha
    rw [f1]
    split
    · rfl
    · exact backX_ne (by omega) (by omega)
  rw [hi 65 (by decide)] at e2 f2
  obtain ⟨g1, g2⟩ := w.image
  by_cases c : mem 47 4 = 0
  · rw [if_pos c] at e1 f1
    rw [if_pos (g1.mpr c)] at e2 f2
    exact ⟨by rw [e1, e2], by rw [f2, f1]; exact w⟩
  · have c' : ¬ mem 65 58 = 0 := fun z => c (g1.mp z)
    rw [if_neg c] at e1 f1
    rw [if_neg c'] at e2 f2
    obtain ⟨⟨p5, p57⟩, g3⟩ := g2 c
    refine ⟨by rw [e1, e2, p57], ?_⟩
    have k : ∀ a, a ≠ 47 → a ≠ 48 → a ≠ 65 → a ≠ 85 → m2 a = mem a := fun a a1 a2 a3 a4 => by rw [f2, backM_ne a3 a4, f1, backX_ne a1 a2]
    have k47 : ∀ j, j ≠ 0 → m2 47 j = mem 47 j := fun j j1 => by
      rw [f2, backM_ne (by decide) (by decide), f1]
      unfold backX
      rw [mrow_ne (by decide), mset_at, if_neg j1]
    have k65 : ∀ j, j ≠ 31 → m2 65 j = mem 65 j := fun j j1 => by
      rw [f2]
      unfold backM
      rw [mset_at, if_neg j1, rowTo_ne _ _ _ (by decide), hi 65 (by decide)]
    have a0 : m2 47 0 = mem 47 5 := by
      rw [f2, backM_ne (by decide) (by decide), f1]
      unfold backX
      rw [mrow_ne (by decide), mset_same]
    have a31 : m2 65 31 = mem 47 5 := by
      rw [f2]
      unfold backM
      rw [mset_same, hi 65 (by decide), p57]
    have a48 : ∀ i, 0 ≤ i → i < 24 → m2 48 i = mem 49 i := fun i i0 i1 => by
      rw [f2, backM_ne (by decide) (by decide), f1]
      unfold backX
      rw [mrow_same, if_pos ⟨i0, i1⟩]
    have a85 : ∀ i, 0 ≤ i → i < mem 65 27 → m2 85 i = mem 98 i := fun i i0 i1 => by
      rw [f2]
      unfold backM
      rw [mset_ne (by decide), rowTo_in _ _ _ ⟨i0, by rw [hi 65 (by decide)]; exact i1⟩, hi 98 (by decide)]
    have b85 : ∀ i, mem 65 27 ≤ i → m2 85 i = mem 85 i := fun i i0 => by
      rw [f2]
      unfold backM
      rw [mset_ne (by decide), rowTo_out _ _ _ (by rw [hi 65 (by decide)]; omega), hi 85 (by decide)]
    obtain ⟨n1, n2, n3, n4⟩ := w.notes
    refine Inv_notes w (fun a a1 a2 _ _ a3 a4 _ _ _ => k a a1 a2 a3 a4) (by rw [k 1 (by decide) (by decide) (by decide) (by decide)]) (fun j hj => k65 j (by omega)) (⟨odOr_of (k 58 (by decide) (by decide) (by decide) (by decide)) w.odd, (k 999 (by decide) (by decide) (by decide) (by decide)).trans w.scr⟩) ?_ (iImage_of (fun j hj => k47 j (by omega)) (fun j hj => k65 j (by omega)) (k 49 (by decide) (by decide) (by decide) (by decide)) (k 98 (by decide) (by decide) (by decide) (by decide)) w.image) (iLast_of (k47 2 (by decide)) (fun j _ => by rw [k 52 (by decide) (by decide) (by decide) (by decide)]) (k 87 (by decide) (by decide) (by decide) (by decide)) w.last)
    unfold iNotes
    rw [a0, a31, k47 1 (by decide), k47 2 (by decide), k65 27 (by decide), k65 32 (by decide), k65 34 (by decide), k65 45 (by decide)]
    refine ⟨⟨p5, rfl⟩, n2, n3, fun i i0 i1 => ?_⟩
    have q := n4 i i0 i1
    have q2 := g3 i i0 i1
    rw [a48 i i0 i1]
    refine ⟨q2.1, ?_, fun z => by rw [a85 i i0 z]; exact q2.2.1 z, q2.2.2⟩
    by_cases z : i < mem 65 27
    · rw [a85 i i0 z, q2.2.1 z]
      exact q2.1
    · rw [b85 i (by omega)]
      exact q.2.1)
end
