/-! steps of the law: what is read, and small changes -/
theorem skT_cg {T T' : Int → Int} {n : Int} (h : ∀ i, i < n → T i = T' i) : skT T n = skT T' n := by
  funext i
  have : ∀ (k : Nat) (j : Int), skF T n k j = skF T' n k j := by
    intro k
    induction k with
    | zero => exact fun _ => rfl
    | succ k ih =>
      intro j
      unfold skF
      by_cases q : j < n
      · rw [h j q, ih]
      · rw [if_neg (fun z => q z.1), if_neg (fun z => q z.1)]
  exact this _ i
theorem chT_cg {T T' : Int → Int} {n : Int} (h : ∀ i, i < n → T i = T' i) : chT T n = chT T' n := by
  funext i
  unfold chT
  by_cases q : 0 ≤ i ∧ i < n
  · rw [if_pos q, if_pos q, h i q.2]
  · rw [if_neg q, if_neg q]
section
variable {sc : Int → Int} {ls : Nat → lawT} {t : Int} {mem m m1 : mmM}
theorem Inv.CE (w : Inv sc ls t m) : CM m = CX m := by
  have a := w.1.1
  show chT (m 66) (m 65 2) = chT (m 2) (m 1 1)
  rw [w.1.2.1]
  exact chT_cg (fun i h => w.1.2.2.1 i (by omega))
theorem Inv.SE (w : Inv sc ls t m) : SM m = SX m := by
  have a := w.1.1
  show skT (m 66) (m 65 2) = skT (m 2) (m 1 1)
  rw [w.1.2.1]
  exact skT_cg (fun i h => w.1.2.2.1 i (by omega))
theorem same_C (h : same mem m) : CX m = CX mem := by
  show chT (m 2) (m 1 1) = chT (mem 2) (mem 1 1)
  rw [h.1 2 (by unfold keepC; omega), h.2.1]
theorem same_S (h : same mem m) : SX m = SX mem := by
  show skT (m 2) (m 1 1) = skT (mem 2) (mem 1 1)
  rw [h.1 2 (by unfold keepC; omega), h.2.1]
theorem Inv_rl {n : Int} (h : rlFr mem n m) (w : Inv sc ls t mem) (hn : mem 0 11 ≤ n) : Inv sc ls t m := by
  obtain ⟨h1, h2, h3, h4, h5⟩ := h
  obtain ⟨w1, ⟨i1, i2, i3, i4, i5⟩, w3, w4, w5, w6, w7, w8, w9⟩ := w
  have hc : ∀ a, a ≠ 65 → (a < 67 ∨ 73 < a) → m a = mem a := h1
  have hj : ∀ j, j ≠ 3 → j ≠ 4 → j ≠ 5 → j ≠ 14 → m 65 j = mem 65 j := h2
  refine ⟨iTape_of (by rw [hc 1 (by decide) (by omega)]) (hc 2 (by decide) (by omega)) (hj 2 (by decide) (by decide) (by decide) (by decide)) (hc 66 (by decide) (by omega)) w1, ?_, iPlay_of (fun a ha => hc a (by omega) (by omega)) ⟨hj 26 (by decide) (by decide) (by decide) (by decide), hj 27 (by decide) (by decide) (by decide) (by decide)⟩ w3, iLeap_of (fun a ha => hc a (by omega) (by omega)) (hj 27 (by decide) (by decide) (by decide) (by decide)) w4, iWorth_of (fun a ha => hc a (by omega) (by omega)) (hj 27 (by decide) (by decide) (by decide) (by decide)) (hj 28 (by decide) (by decide) (by decide) (by decide)) w5, iNotes_of (fun j _ => by rw [hc 47 (by decide) (by omega)]) (fun j z => hj j (by omega) (by omega) (by omega) (by omega)) (hc 48 (by decide) (by omega)) (hc 85 (by decide) (by omega)) w6, iImage_of (fun j _ => by rw [hc 47 (by decide) (by omega)]) (fun j z => hj j (by omega) (by omega) (by omega) (by omega)) (hc 49 (by decide) (by omega)) (hc 98 (by decide) (by omega)) w7, iLast_of (by rw [hc 47 (by decide) (by omega)]) (fun j _ => by rw [hc 52 (by decide) (by omega)]) (hc 87 (by decide) (by omega)) w8, ⟨odOr_of (hc 58 (by decide) (by omega)) w9.1, (hc 999 (by decide) (by omega)).trans w9.2⟩⟩
  unfold iLaws
  rw [hc 0 (by decide) (by omega), hj 13 (by decide) (by decide) (by decide) (by decide), hj 28 (by decide) (by decide) (by decide) (by decide)]
  refine ⟨i1, i2, i3, i4, fun k hk => ?_⟩
  obtain ⟨r1, r2, r3⟩ := i5 k hk
  have e70 : m 70 k = mem 70 k := (h3 k (by omega)).2
  rw [hc (11 + 3 * k) (by omega) (by omega), hc (12 + 3 * k) (by omega) (by omega), e70]
  exact ⟨r1, lawR_far e70 r3.2 (fun i j0 j1 => h5 i (by omega)) (fun i j0 j1 => h4 i (by omega)) _ _ (Int.le_refl _) r2, r3⟩
theorem cut0_0 (mem : mmM) : ∀ i, 0 ≤ i → i < 24 → cut0 mem i = 0 := fun i i0 i1 => if_pos ⟨i0, i1⟩
theorem same_faultX {x v : Int} (h : faultX mem x v m) : same mem m := by
  rcases h with ⟨-, h⟩ | ⟨-, h⟩ | ⟨-, -, -, h⟩
  · cases hr : bookS (CX mem) (SX mem) (mem 4) (mem 5) (mem 6) (cut0 mem) with
    | inl f =>
      rw [hr] at h
      exact same_rd h.2
    | inr y =>
      obtain ⟨c, A, W, L, K⟩ := y
      rw [hr] at h
      exact same_rd h.2.1
  · cases hr : lawP (CX mem) (SX mem) 200 0 with
    | inl f =>
      rw [hr] at h
      exact same_lx h.2
    | inr cl =>
      rw [hr] at h
      exact same_lx h.2.1
  · exact same_eq h
theorem st_fault (w : Inv sc ls t mem) (x : Int) (hx : R32 x) : stp 0 bX11_fault 37 [(2, 0), (0, x)] bX12_fault 37 [(2, 65), (0, x)] mem (Inv sc ls t) := stp_of (c3 := fun v1 m1 q => keep999 (same_faultX q)) (c_X11_fault mem x hx w.bytX) (fun v1 m1 q => c_X12_fault m1 x hx (Inv_same (same_faultX q) w).bytM (Inv_same (same_faultX q) w).posM (mem 4) (mem 5) (mem 6) (cut0 mem) (cut0_0 mem)) (fun v1 m1 v2 m2 q1 q2 => by
  have s := same_faultX q1
  have w1 := Inv_same s w
  unfold faultM at q2
  rw [w1.CE, w1.SE, same_C s, same_S s] at q2
  rcases q1 with ⟨z, q1⟩ | ⟨z, q1⟩ | ⟨z, z2, q1, -⟩
  · rcases q2 with ⟨-, q2⟩ | ⟨y, -⟩ | ⟨y, -⟩
    · cases hr : bookS (CX mem) (SX mem) (mem 4) (mem 5) (mem 6) (cut0 mem) with
      | inl f =>
        rw [hr] at q1 q2
        exact ⟨q1.1.trans q2.1.symm, Inv_same (same_mf q2.2.2) w1⟩
      | inr y =>
        obtain ⟨c, A, W, L, K⟩ := y
        rw [hr] at q1 q2
        exact ⟨q1.1.trans q2.1.symm, Inv_same (same_mf q2.2.1) w1⟩
    · omega
    · omega
  · rcases q2 with ⟨y, -⟩ | ⟨-, q2⟩ | ⟨-, y, -⟩
    · omega
    · have k4 := w1.2.1.1.2
      cases hr : lawP (CX mem) (SX mem) 200 0 with
      | inl f =>
        rw [hr] at q1 q2
        exact ⟨q1.1.trans q2.1.symm, Inv_rl q2.2.2 w1 k4⟩
      | inr cl =>
        rw [hr] at q1 q2
        exact ⟨q1.1.trans q2.1.symm, Inv_rl q2.2.1 w1 k4⟩
    · omega
  · rcases q2 with ⟨y, -⟩ | ⟨y, -⟩ | ⟨-, -, q2, e⟩
    · omega
    · omega
    · exact ⟨q1.trans q2.symm, by rw [e]; exact w1⟩)
/-! evenings -/
theorem ev_two {L : Int} {m2 : mmM} (w : Inv sc ls t mem) (h : evXP mem L m1) (h2 : evMP m1 L m2) : m1 50 3 = m2 65 36 ∧ m1 50 4 = m2 65 39 ∧ m1 50 5 = m2 65 37 ∧ m1 50 6 = m2 65 38 ∧ (∀ j, 0 ≤ j → j < m1 50 3 → m1 51 j = m2 86 j) := by
  have w1 := Inv_same (same_evX h) w
  obtain ⟨k, x1, ⟨x2, x3, x4, x5, x6⟩, x7, x8⟩ := h
  obtain ⟨k', y1, ⟨y2, y3, y4, y5, y6⟩, y7, y8⟩ := h2
  rw [← x2 23 (by decide) (by decide), ← x2 38 (by decide) (by decide), w1.size] at x1 x7 x8
  rw [← x2 26 (by decide) (by decide), ← x2 38 (by decide) (by decide)] at x5
  rw [← x2 38 (by decide) (by decide)] at x6
  obtain ⟨c1, c2, c3, c4, c5⟩ := ev_cg w1.leapB w1.leapE w1.e26 x1
  have e : k = k' := evEnd_unique c1 y1
  subst e
  refine ⟨x4.trans y4.symm, ?_, ?_, ?_, fun j j0 j1 => ?_⟩
  · rw [x5, y5, c4]
  · rw [x7, y7, c2]
  · rw [x8, y8, c3]
  · have hj : j.toNat < k := by omega
    have ex := x6 j.toNat hj
    have ey := y6 j.toNat hj
    rw [show ((j.toNat : Nat) : Int) = j by omega] at ex ey
    rw [ex, ey, c5 _ hj]
theorem st_evening (w : Inv sc ls t mem) (x y : Int) (hx : R32 x) (hy : R32 y) : stp 0 bX11_evening 5 [(2, 0), (0, x), (0, y)] bX12_evening 6 [(2, 65), (0, x), (0, y)] mem (Inv sc ls t) := stp_of (c3 := fun v1 m1 q => keep999 (q.elim (fun q => same_eq q.2.2) (fun q => same_evX q.2.1))) (c_X11_evening mem x y hx hy w.playX) (fun v1 m1 q => c_X12_evening m1 x y hx hy (Inv_same (q.elim (fun q => same_eq q.2.2) (fun q => same_evX q.2.1)) w).play) (fun v1 m1 v2 m2 q1 q2 => by
  rcases q1 with ⟨g, e1, f1⟩ | ⟨g, f1, e1⟩
  · have w1 : Inv sc ls t m1 := Inv_same (same_eq f1) w
    rw [w.size] at g
    rcases q2 with ⟨g2, e2, f2⟩ | ⟨g2, f2, e2⟩
    · exact ⟨e1.trans e2.symm, Inv_same (same_eq f2) w1⟩
    · rw [f1] at g2
      have : ¬ -1 ≤ y := fun z => g ⟨g2, z⟩
      rw [if_neg (by omega), if_neg (by omega)] at e2
      exact ⟨e1.trans e2.symm, Inv_same (same_evM f2) w1⟩
  · have w1 := Inv_same (same_evX f1) w
    have e27 : m1 65 27 = mem 23 1 := by
      rw [← w1.size]
      obtain ⟨k, -, ⟨x2, -⟩, -⟩ := f1
      rw [x2 23 (by decide) (by decide)]
    rcases q2 with ⟨g2, e2, f2⟩ | ⟨g2, f2, e2⟩
    · rw [e27] at g2
      exact absurd g.1 g2
    · refine ⟨?_, Inv_same (same_evM f2) w1⟩
      obtain ⟨c3, -, -, -, c6⟩ := ev_two w f1 f2
      rw [e1, e2, ← c3]
      by_cases z : y = -1
      · rw [if_pos z, if_pos z]
      · rw [if_neg z, if_neg z]
        by_cases z2 : y < m1 50 3
        · rw [if_pos z2, if_pos ⟨by omega, z2⟩]
          exact c6 y (by omega) z2
        · rw [if_neg z2, if_neg (fun q => z2 q.2)])
theorem st_ends (w : Inv sc ls t mem) (x y : Int) (hx : R32 x) (hy : R32 y) : stp 0 bX11_ends 5 [(2, 0), (0, x), (0, y)] bX12_ends 6 [(2, 65), (0, x), (0, y)] mem (Inv sc ls t) := stp_of (c3 := fun v1 m1 q => keep999 (q.elim (fun q => same_eq q.2.2) (fun q => same_evX q.2.1))) (c_X11_ends mem x y hx hy w.playX) (fun v1 m1 q => c_X12_ends m1 x y hx hy (Inv_same (q.elim (fun q => same_eq q.2.2) (fun q => same_evX q.2.1)) w).play) (fun v1 m1 v2 m2 q1 q2 => by
  rcases q1 with ⟨g, e1, f1⟩ | ⟨g, f1, e1⟩
  · have w1 : Inv sc ls t m1 := Inv_same (same_eq f1) w
    rw [w.size] at g
    rcases q2 with ⟨g2, e2, f2⟩ | ⟨g2, f2, e2⟩
    · exact ⟨e1.trans e2.symm, Inv_same (same_eq f2) w1⟩
    · rw [f1] at g2
      exact absurd g2 g
  · have w1 := Inv_same (same_evX f1) w
    have e27 : m1 65 27 = mem 23 1 := by
      rw [← w1.size]
      obtain ⟨k, -, ⟨x2, -⟩, -⟩ := f1
      rw [x2 23 (by decide) (by decide)]
    rcases q2 with ⟨g2, e2, f2⟩ | ⟨g2, f2, e2⟩
    · rw [e27] at g2
      exact absurd g g2
    · refine ⟨?_, Inv_same (same_evM f2) w1⟩
      obtain ⟨-, c4, c5, c6, -⟩ := ev_two w f1 f2
      rw [e1, e2, c4, c5, c6])
theorem st_trial (w : Inv sc ls t mem) (x y : Int) (hx : R32 x) (hy : R32 y) : stp 0 bX11_trial 6 [(2, 0), (0, x), (0, y)] bX12_trial 11 [(2, 65), (0, x), (0, y)] mem (Inv sc ls t) := stp_of (c_X11_trial mem x y hx hy w.nightP (by have e := w.notes.1.1; exact ⟨by omega, by omega⟩)) (fun v1 m1 q => c_X12_trial m1 (forgF m1 (heldL ls m1)) x y hx hy (Inv_same (same_tr q.2) w).play (Inv_same (same_tr q.2) w).takeM (Inv_same (same_tr q.2) w).forgM) (fun v1 m1 v2 m2 q1 q2 => by
  obtain ⟨e1, f1⟩ := q1
  obtain ⟨e2, f2⟩ := q2
  have w1 := Inv_same (same_tr f1) w
  refine ⟨?_, Inv_same (same_night f2) w1⟩
  have ef : forgetsX m1 = forgetsX mem := by
    funext s b
    unfold forgetsX
    rw [f1 23 (by decide) (by decide) (by decide), f1 31 (by decide) (by decide) (by decide), f1 32 (by decide) (by decide) (by decide)]
  have et : takeX m1 = takeX mem := by
    funext s
    unfold takeX
    rw [f1 23 (by decide) (by decide) (by decide), f1 24 (by decide) (by decide) (by decide), f1 37 (by decide) (by decide) (by decide)]
  rw [← ef, ← et, ← f1 23 (by decide) (by decide) (by decide), ← f1 38 (by decide) (by decide) (by decide), ← f1 26 (by decide) (by decide) (by decide), ← f1 47 (by decide) (by decide) (by decide), w1.size] at e1
  rw [w1.marks] at e2
  refine trialP_unique (trialP_congr w1.n.1 w1.leapB (fun s s0 s1 => ?_) (fun s s0 s1 => (w1.takes ⟨s0, s1⟩).1) w1.leapE w1.e26 e1) e2
  show forgetsX m1 s (bitN (m1 47 0) s) = forgF m1 (heldL ls m1) s
  rw [forgF_per, w1.marks, w1.forgets ⟨s0, s1⟩])
end
