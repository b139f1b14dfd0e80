/-! what holds between the class and the model ahead of each call of the law -/
def iTape (m : mmM) : Prop := (0 ≤ m 1 1 ∧ m 1 1 ≤ 160) ∧ m 65 2 = m 1 1 ∧ (∀ i, i < 160 → m 66 i = m 2 i) ∧ ∀ i, 0 ≤ i → i < 160 → 0 ≤ m 2 i ∧ m 2 i ≤ 255 ∧ (i < m 1 1 → 1 ≤ m 2 i)
def iLaws (ls : Nat → lawT) (m : mmM) : Prop := (0 ≤ m 0 11 ∧ m 0 11 ≤ 4) ∧ m 65 13 = m 0 11 ∧ (-1 ≤ m 0 12 ∧ m 0 12 < m 0 11) ∧ m 65 28 = m 0 12 ∧ ∀ k : Nat, (k : Int) < m 0 11 → ((0 ≤ m (11 + 3 * k) 1 ∧ m (11 + 3 * k) 1 ≤ 160) ∧ lawX (m (12 + 3 * k)) (m (11 + 3 * k) 1) 0 (ls k)) ∧ lawR m k (90 * (k : Int)) (ls k) ∧ 0 ≤ m 70 k ∧ m 70 k ≤ 90
def iPlay (m : mmM) : Prop := playM m ∧ m 23 1 = m 65 27 ∧ m 23 0 = m 65 26 ∧ ∀ i, 0 ≤ i → i < m 65 27 → (m 24 i = m 79 i ∧ m 25 i = m 80 i ∧ m 26 i = m 81 i ∧ m 27 i = m 82 i) ∧ 1 ≤ m 81 i ∧ m 28 i = cueF (m 80) i ∧ m 29 i = gapF (m 79) i ∧ m 30 i = likesF (m 65 27) (m 79) (cueF (m 80)) i
def iLeap (m : mmM) : Prop := (∀ a, 0 ≤ a → a < 8 → m 36 a = m 83 a ∧ m 37 a = m 84 a ∧ (0 ≤ m 83 a ∧ m 83 a ≤ 3) ∧ (0 ≤ m 84 a ∧ m 84 a ≤ 100)) ∧ ∀ i, 0 ≤ i → i < m 65 27 → m 38 i = leapM m i
def perM (ls : Nat → lawT) (m : mmM) (i b : Int) : Int := if m 65 28 = -1 then 0 else max 0 (min 100 (lawV (letM m i b) (ls (m 65 28).toNat)))
def iWorth (ls : Nat → lawT) (m : mmM) : Prop := ∀ i, 0 ≤ i → i < m 65 27 → m 31 i = perM ls m i 0 ∧ m 32 i = perM ls m i 1
def iImage (t : Int) (m : mmM) : Prop := (m 65 58 = 0 ↔ m 47 4 = 0) ∧ (¬ m 47 4 = 0 → ((0 ≤ m 47 5 ∧ m 47 5 < 16777216) ∧ m 65 57 = m 47 5) ∧ ∀ i, 0 ≤ i → i < 24 → (0 ≤ m 49 i ∧ m 49 i ≤ 201 * t) ∧ (i < m 65 27 → m 98 i = m 49 i) ∧ (m 65 27 ≤ i → m 49 i = 0))
def iNotes (t : Int) (m : mmM) : Prop := ((0 ≤ m 47 0 ∧ m 47 0 < 16777216) ∧ m 65 31 = m 47 0) ∧ ((0 ≤ m 47 1 ∧ m 47 1 < 16777216) ∧ m 65 32 = m 47 1 ∧ bcS (m 47 1) ≤ 10) ∧ ((0 ≤ m 47 2 ∧ m 47 2 ≤ t) ∧ m 65 34 = m 47 2 ∧ (m 65 45 = 0 ↔ m 47 2 = 0)) ∧ ∀ i, 0 ≤ i → i < 24 → (0 ≤ m 48 i ∧ m 48 i ≤ 201 * t) ∧ (0 ≤ m 85 i ∧ m 85 i ≤ 201 * t) ∧ (i < m 65 27 → m 85 i = m 48 i) ∧ (m 65 27 ≤ i → m 48 i = 0)
def iLast (m : mmM) : Prop := ¬ m 47 2 = 0 → m 87 0 = m 52 3 ∧ m 87 1 = m 52 9 ∧ m 87 2 = m 52 10 ∧ m 87 3 = m 52 4 + 3 * m 52 10 ∧ m 87 4 = m 52 11
def iOdd (sc : Int → Int) (m : mmM) : Prop := odOr m ∧ m 999 = sc
def Inv (sc : Int → Int) (ls : Nat → lawT) (t : Int) (m : mmM) : Prop := iTape m ∧ iLaws ls m ∧ iPlay m ∧ iLeap m ∧ iWorth ls m ∧ iNotes t m ∧ iImage t m ∧ iLast m ∧ iOdd sc m
/-! each of it rests on some cells alone -/
theorem iTape_of {mem m : mmM} (h1 : m 1 1 = mem 1 1) (h2 : m 2 = mem 2) (h3 : m 65 2 = mem 65 2) (h4 : m 66 = mem 66) (h : iTape mem) : iTape m := by
  unfold iTape
  rw [h1, h2, h3, h4]
  exact h
theorem lawR_far {mem m : mmM} {k : Int} (h70 : m 70 k = mem 70 k) (hk : mem 70 k ≤ 90) (h7 : ∀ i, 90 * k ≤ i → i < 90 * k + 90 → m 71 i = mem 71 i ∧ m 72 i = mem 72 i ∧ m 73 i = mem 73 i) (h6 : ∀ i, 340 * k ≤ i → i < 340 * k + 340 → m 67 i = mem 67 i ∧ m 68 i = mem 68 i) : ∀ (cl : lawT) (c : Int), 90 * k ≤ c → lawR mem k c cl → lawR m k c cl := by
  intro cl
  induction cl with
  | nil =>
    intro c _ h
    unfold lawR at h ⊢
    rw [h70]
    exact h
  | cons q r ih =>
    intro c hc h
    obtain ⟨r0, ⟨r1, r2, r3, r4⟩, ⟨r5, r6⟩, r7, r8, r9⟩ := h
    have e := h7 c hc (by omega)
    refine ⟨by rw [h70]; exact r0, ?_, ?_, r7, r8, ih (c + 1) (by omega) r9⟩
    · rw [e.1, e.2.1, e.2.2]
      exact ⟨r1, r2, r3, r4⟩
    · rw [e.1, e.2.1]
      exact ⟨tokR_congr _ _ (fun i i0 i1 => ⟨(h6 i (by omega) (by omega)).1.symm, (h6 i (by omega) (by omega)).2.symm⟩) r5, tokR_congr _ _ (fun i i0 i1 => ⟨(h6 i (by omega) (by omega)).1.symm, (h6 i (by omega) (by omega)).2.symm⟩) r6⟩
theorem lawR_same {mem m : mmM} {k : Int} {cl : lawT} (h : ∀ a, a = 67 ∨ a = 68 ∨ a = 70 ∨ a = 71 ∨ a = 72 ∨ a = 73 → m a = mem a) (hk : mem 70 k ≤ 90) (w : lawR mem k (90 * k) cl) : lawR m k (90 * k) cl := lawR_far (by rw [h 70 (by omega)]) hk (fun i _ _ => ⟨by rw [h 71 (by omega)], by rw [h 72 (by omega)], by rw [h 73 (by omega)]⟩) (fun i _ _ => ⟨by rw [h 67 (by omega)], by rw [h 68 (by omega)]⟩) cl _ (Int.le_refl _) w
theorem iLaws_of {ls : Nat → lawT} {mem m : mmM} (h0 : ∀ j, j = 11 ∨ j = 12 → m 0 j = mem 0 j) (hl : ∀ k : Nat, (k : Int) < mem 0 11 → m (11 + 3 * k) 1 = mem (11 + 3 * k) 1 ∧ m (12 + 3 * k) = mem (12 + 3 * k)) (h65 : ∀ j, j = 13 ∨ j = 28 → m 65 j = mem 65 j) (hr : ∀ a, a = 67 ∨ a = 68 ∨ a = 70 ∨ a = 71 ∨ a = 72 ∨ a = 73 → m a = mem a) (h : iLaws ls mem) : iLaws ls m := by
  obtain ⟨i1, i2, i3, i4, i5⟩ := h
  unfold iLaws
  rw [h0 11 (by omega), h0 12 (by omega), h65 13 (by omega), h65 28 (by omega)]
  refine ⟨i1, i2, i3, i4, fun k hk => ?_⟩
  have w := i5 k hk
  rw [(hl k hk).1, (hl k hk).2, hr 70 (by omega)]
  exact ⟨w.1, lawR_same hr w.2.2.2 w.2.1, w.2.2⟩
theorem iPlay_of {mem m : mmM} (h : ∀ a, (23 ≤ a ∧ a ≤ 30) ∨ (79 ≤ a ∧ a ≤ 82) → m a = mem a) (h65 : m 65 26 = mem 65 26 ∧ m 65 27 = mem 65 27) (w : iPlay mem) : iPlay m := by
  obtain ⟨w1, w2⟩ := w
  unfold iPlay
  rw [h 23 (by omega), h 24 (by omega), h 25 (by omega), h 26 (by omega), h 27 (by omega), h 28 (by omega), h 29 (by omega), h 30 (by omega), h 79 (by omega), h 80 (by omega), h 81 (by omega), h 82 (by omega), h65.1, h65.2]
  exact ⟨playM_congr w1 h65.2 (h 79 (by omega)) (h 80 (by omega)) (h 81 (by omega)), w2⟩
theorem iLeap_of {mem m : mmM} (h : ∀ a, (36 ≤ a ∧ a ≤ 38) ∨ (79 ≤ a ∧ a ≤ 84) → m a = mem a) (h65 : m 65 27 = mem 65 27) (w : iLeap mem) : iLeap m := by
  have e : leapM m = leapM mem := leapM_congr h65 (h 79 (by omega)) (h 80 (by omega)) (h 83 (by omega))
  unfold iLeap
  rw [h 36 (by omega), h 37 (by omega), h 38 (by omega), h 83 (by omega), h 84 (by omega), h65, e]
  exact w
theorem letM_of {mem m : mmM} (h : ∀ a, 79 ≤ a ∧ a ≤ 81 → m a = mem a) (h65 : m 65 27 = mem 65 27) (s b : Int) : letM m s b = letM mem s b := by
  funext k
  unfold letM
  rw [h 79 (by omega), h 80 (by omega), h 81 (by omega), h65]
theorem perM_of {ls : Nat → lawT} {mem m : mmM} (h : ∀ a, 79 ≤ a ∧ a ≤ 81 → m a = mem a) (h65 : m 65 27 = mem 65 27) (h28 : m 65 28 = mem 65 28) (s b : Int) : perM ls m s b = perM ls mem s b := by
  unfold perM
  rw [letM_of h h65, h28]
theorem iWorth_of {ls : Nat → lawT} {mem m : mmM} (h : ∀ a, a = 31 ∨ a = 32 ∨ (79 ≤ a ∧ a ≤ 81) → m a = mem a) (h65 : m 65 27 = mem 65 27) (h28 : m 65 28 = mem 65 28) (w : iWorth ls mem) : iWorth ls m := by
  unfold iWorth
  intro i i0 i1
  rw [h65] at i1
  rw [h 31 (by omega), h 32 (by omega), perM_of (fun a ha => h a (by omega)) h65 h28, perM_of (fun a ha => h a (by omega)) h65 h28]
  exact w i i0 i1
theorem iNotes_of {t : Int} {mem m : mmM} (h47 : ∀ j, j = 0 ∨ j = 1 ∨ j = 2 → m 47 j = mem 47 j) (h65 : ∀ j, j = 27 ∨ j = 31 ∨ j = 32 ∨ j = 34 ∨ j = 45 → m 65 j = mem 65 j) (h48 : m 48 = mem 48) (h85 : m 85 = mem 85) (w : iNotes t mem) : iNotes t m := by
  unfold iNotes
  rw [h47 0 (by omega), h47 1 (by omega), h47 2 (by omega), h65 27 (by omega), h65 31 (by omega), h65 32 (by omega), h65 34 (by omega), h65 45 (by omega), h48, h85]
  exact w
theorem iImage_of {t : Int} {mem m : mmM} (h47 : ∀ j, j = 4 ∨ j = 5 → m 47 j = mem 47 j) (h65 : ∀ j, j = 27 ∨ j = 57 ∨ j = 58 → m 65 j = mem 65 j) (h49 : m 49 = mem 49) (h98 : m 98 = mem 98) (w : iImage t mem) : iImage t m := by
  unfold iImage
  rw [h47 4 (by omega), h47 5 (by omega), h65 27 (by omega), h65 57 (by omega), h65 58 (by omega), h49, h98]
  exact w
theorem iLast_of {mem m : mmM} (h47 : m 47 2 = mem 47 2) (h52 : ∀ j, j = 3 ∨ j = 4 ∨ j = 9 ∨ j = 10 ∨ j = 11 → m 52 j = mem 52 j) (h87 : m 87 = mem 87) (w : iLast mem) : iLast m := by
  unfold iLast
  rw [h47, h52 3 (by omega), h52 4 (by omega), h52 9 (by omega), h52 10 (by omega), h52 11 (by omega), h87]
  exact w
theorem odOr_of {mem m : mmM} (h : m 58 = mem 58) (w : odOr mem) : odOr m := by
  unfold odOr
  rw [h]
  exact w
/-- nothing changed that counts -/
def keepC (a : Nat) : Prop := a = 0 ∨ a = 2 ∨ (11 ≤ a ∧ a ≤ 32) ∨ (36 ≤ a ∧ a ≤ 38) ∨ (47 ≤ a ∧ a ≤ 49) ∨ a = 52 ∨ (66 ≤ a ∧ a ≤ 68) ∨ (70 ≤ a ∧ a ≤ 73) ∨ (79 ≤ a ∧ a ≤ 85) ∨ a = 87 ∨ a = 98 ∨ a = 999
def keepJ (j : Int) : Prop := j = 2 ∨ j = 13 ∨ (26 ≤ j ∧ j ≤ 28) ∨ j = 31 ∨ j = 32 ∨ j = 34 ∨ j = 45 ∨ j = 57 ∨ j = 58
def same (mem m : mmM) : Prop := (∀ a, keepC a → m a = mem a) ∧ m 1 1 = mem 1 1 ∧ (∀ j, keepJ j → m 65 j = mem 65 j) ∧ (odOr mem → odOr m)
theorem same_refl (mem : mmM) : same mem mem := ⟨fun _ _ => rfl, rfl, fun _ _ => rfl, id⟩
theorem same_trans {a b c : mmM} (h : same a b) (h' : same b c) : same a c := ⟨fun x hx => (h'.1 x hx).trans (h.1 x hx), h'.2.1.trans h.2.1, fun j hj => (h'.2.2.1 j hj).trans (h.2.2.1 j hj), fun w => h'.2.2.2 (h.2.2.2 w)⟩
theorem Inv_same {sc : Int → Int} {ls : Nat → lawT} {t : Int} {mem m : mmM} (h : same mem m) (w : Inv sc ls t mem) : Inv sc ls t m := by
  obtain ⟨h1, h2, h3, h4⟩ := h
  obtain ⟨w1, w2, w3, w4, w5, w6, w7, w8, w9⟩ := w
  have hc : ∀ a, keepC a → m a = mem a := h1
  have hl : ∀ k : Nat, (k : Int) < mem 0 11 → m (11 + 3 * k) 1 = mem (11 + 3 * k) 1 ∧ m (12 + 3 * k) = mem (12 + 3 * k) := by
    intro k hk
    have := w2.1
    exact ⟨by rw [hc _ (by unfold keepC; omega)], hc _ (by unfold keepC; omega)⟩
  refine ⟨iTape_of h2 (hc 2 (by unfold keepC; omega)) (h3 2 (by unfold keepJ; omega)) (hc 66 (by unfold keepC; omega)) w1, iLaws_of (fun j _ => by rw [hc 0 (by unfold keepC; omega)]) hl (fun j hj => h3 j (by unfold keepJ; omega)) (fun a ha => hc a (by unfold keepC; omega)) w2, iPlay_of (fun a ha => hc a (by unfold keepC; omega)) ⟨h3 26 (by unfold keepJ; omega), h3 27 (by unfold keepJ; omega)⟩ w3, iLeap_of (fun a ha => hc a (by unfold keepC; omega)) (h3 27 (by unfold keepJ; omega)) w4, iWorth_of (fun a ha => hc a (by unfold keepC; omega)) (h3 27 (by unfold keepJ; omega)) (h3 28 (by unfold keepJ; omega)) w5, iNotes_of (fun j _ => by rw [hc 47 (by unfold keepC; omega)]) (fun j hj => h3 j (by unfold keepJ; omega)) (hc 48 (by unfold keepC; omega)) (hc 85 (by unfold keepC; omega)) w6, iImage_of (fun j _ => by rw [hc 47 (by unfold keepC; omega)]) (fun j hj => h3 j (by unfold keepJ; omega)) (hc 49 (by unfold keepC; omega)) (hc 98 (by unfold keepC; omega)) w7, iLast_of (by rw [hc 47 (by unfold keepC; omega)]) (fun j _ => by rw [hc 52 (by unfold keepC; omega)]) (hc 87 (by unfold keepC; omega)) w8, h4 w9.1, (hc 999 (by unfold keepC; omega)).trans w9.2⟩
theorem Inv_more {sc : Int → Int} {ls : Nat → lawT} {t : Int} {m : mmM} (w : Inv sc ls t m) (h0 : 0 ≤ t) : Inv sc ls (t + 1) m := by
  obtain ⟨w1, w2, w3, w4, w5, ⟨n1, n2, n3, n4⟩, ⟨g1, g2⟩, w8, w9⟩ := w
  refine ⟨w1, w2, w3, w4, w5, ⟨n1, n2, ⟨by omega, n3.2⟩, fun i i0 i1 => ?_⟩, ⟨g1, fun z => ⟨(g2 z).1, fun i i0 i1 => ?_⟩⟩, w8, w9⟩
  · have := n4 i i0 i1
    exact ⟨by omega, by omega, this.2.2⟩
  · have := (g2 z).2 i i0 i1
    exact ⟨by omega, this.2⟩
/-! frames that change nothing of it -/
theorem same_ch {mem m : mmM} (h : chFr mem m) : same mem m := ⟨fun a ha => h a (by unfold keepC at ha; omega) (by unfold keepC at ha; omega) (by unfold keepC at ha; omega), by rw [h 1 (by decide) (by decide) (by omega)], fun j _ => by rw [h 65 (by decide) (by decide) (by omega)], odOr_of (h 58 (by decide) (by decide) (by omega))⟩
theorem same_odd {mem m : mmM} (h : oddQ mem m) : same mem m := ⟨fun a ha => h.1 a (by unfold keepC at ha; omega), by rw [h.1 1 (by omega)], fun j _ => by rw [h.1 65 (by omega)], fun _ => h.2⟩
theorem same_ext {mem m : mmM} (h : ext1Fr mem m) : same mem m := ⟨fun a ha => h a (by unfold keepC at ha; omega), by rw [h 1 (by decide)], fun j _ => by rw [h 65 (by decide)], odOr_of (h 58 (by decide))⟩
theorem same_gt {mem m : mmM} (h : gtFr mem m) : same mem m := ⟨fun a ha => h.1 a (by unfold keepC at ha; omega) (by unfold keepC at ha; omega), by rw [h.1 1 (by decide) (by decide)], fun j hj => h.2 j (by unfold keepJ at hj; omega), odOr_of (h.1 58 (by decide) (by decide))⟩
theorem same_pl {mem m : mmM} (h : plFr mem m) : same mem m := ⟨fun a ha => h a (by unfold keepC at ha; omega) (by unfold keepC at ha; omega), by rw [h 1 (by decide) (by decide)], fun j _ => by rw [h 65 (by decide) (by decide)], odOr_of (h 58 (by decide) (by decide))⟩
theorem same_rm {mem m : mmM} (h : rmFr mem m) : same mem m := ⟨fun a ha => h a (by unfold keepC at ha; omega) (by unfold keepC at ha; omega), by rw [h 1 (by decide) (by decide)], fun j _ => by rw [h 65 (by decide) (by decide)], odOr_of (h 58 (by decide) (by decide))⟩
theorem same_rw {mem m : mmM} (h : rwFr mem m) : same mem m := ⟨fun a ha => h a (by unfold keepC at ha; omega), by rw [h 1 (by omega)], fun j _ => by rw [h 65 (by omega)], odOr_of (h 58 (by omega))⟩
theorem same_tr {mem m : mmM} (h : trFr mem m) : same mem m := ⟨fun a ha => h a (by unfold keepC at ha; omega) (by unfold keepC at ha; omega) (by unfold keepC at ha; omega), by rw [h 1 (by decide) (by decide) (by decide)], fun j _ => by rw [h 65 (by decide) (by decide) (by decide)], odOr_of (h 58 (by decide) (by decide) (by decide))⟩
theorem same_night {mem m : mmM} (h : nightFr mem m) : same mem m := ⟨fun a ha => h.1 a (by unfold keepC at ha; omega) (by unfold keepC at ha; omega) (by unfold keepC at ha; omega) (by unfold keepC at ha; omega) (by unfold keepC at ha; omega), by rw [h.1 1 (by decide) (by decide) (by decide) (by decide) (by decide)], fun j hj => h.2 j (by unfold keepJ at hj; omega), odOr_of (h.1 58 (by decide) (by decide) (by decide) (by decide) (by decide))⟩
theorem same_97 {mem m : mmM} (h : ∀ a, a ≠ 97 → m a = mem a) : same mem m := ⟨fun a ha => h a (by unfold keepC at ha; omega), by rw [h 1 (by decide)], fun j _ => by rw [h 65 (by decide)], odOr_of (h 58 (by decide))⟩
theorem same_evX {mem m : mmM} {L : Int} (h : evXP mem L m) : same mem m := by
  obtain ⟨k, -, ⟨h1, -⟩, -⟩ := h
  exact ⟨fun a ha => h1 a (by unfold keepC at ha; omega) (by unfold keepC at ha; omega), by rw [h1 1 (by decide) (by decide)], fun j _ => by rw [h1 65 (by decide) (by decide)], odOr_of (h1 58 (by decide) (by decide))⟩
theorem same_evM {mem m : mmM} {L : Int} (h : evMP mem L m) : same mem m := by
  obtain ⟨k, -, ⟨h1, h2, -⟩, -⟩ := h
  exact ⟨fun a ha => h1 a (by unfold keepC at ha; omega) (by unfold keepC at ha; omega), by rw [h1 1 (by decide) (by decide)], fun j hj => h2 j (by unfold keepJ at hj; omega), odOr_of (h1 58 (by decide) (by decide))⟩
theorem same_rd {mem m : mmM} (h : rdFr mem m) : same mem m := ⟨fun a ha => h.1 a (by unfold keepC at ha; omega) (by unfold keepC at ha; omega) (by unfold keepC at ha; omega) (by unfold keepC at ha; omega) (by unfold keepC at ha; omega) (by unfold keepC at ha; omega), h.2 1 (by decide), fun j _ => by rw [h.1 65 (by decide) (by decide) (by decide) (by decide) (by decide) (by decide)], odOr_of (h.1 58 (by decide) (by decide) (by decide) (by decide) (by decide) (by decide))⟩
theorem same_lx {mem m : mmM} (h : lxFr mem m) : same mem m := ⟨fun a ha => h.1 a (by unfold keepC at ha; omega) (by unfold keepC at ha; omega) (by unfold keepC at ha; omega), h.2.1 1 (by decide), fun j _ => by rw [h.1 65 (by decide) (by decide) (by decide)], odOr_of (h.1 58 (by decide) (by decide) (by decide))⟩
theorem same_mf {mem m : mmM} (h : mFr mem m) : same mem m := ⟨fun a ha => h.1 a (by unfold keepC at ha; omega) (by unfold keepC at ha; omega) (by unfold keepC at ha; omega) (by unfold keepC at ha; omega), by rw [h.1 1 (by decide) (by decide) (by decide) (by decide)], fun j hj => h.2 j (by unfold keepJ at hj; omega) (by unfold keepJ at hj; omega) (by unfold keepJ at hj; omega) (by unfold keepJ at hj; omega), odOr_of (h.1 58 (by decide) (by decide) (by decide) (by decide))⟩
/-! what a contract asks, of the invariant -/
section
variable {sc : Int → Int} {ls : Nat → lawT} {t : Int} {m : mmM}
theorem Inv.play (w : Inv sc ls t m) : playM m := w.2.2.1.1
theorem Inv.n (w : Inv sc ls t m) : 0 ≤ m 65 27 ∧ m 65 27 ≤ 24 := w.2.2.1.1.1
theorem Inv.size (w : Inv sc ls t m) : m 23 1 = m 65 27 := w.2.2.1.2.1
theorem Inv.nX (w : Inv sc ls t m) : 0 ≤ m 23 1 ∧ m 23 1 ≤ 24 := by
  rw [w.size]
  exact w.n
theorem Inv.row (w : Inv sc ls t m) : ∀ i, 0 ≤ i → i < m 65 27 → (m 24 i = m 79 i ∧ m 25 i = m 80 i ∧ m 26 i = m 81 i ∧ m 27 i = m 82 i) ∧ 1 ≤ m 81 i ∧ m 28 i = cueF (m 80) i ∧ m 29 i = gapF (m 79) i ∧ m 30 i = likesF (m 65 27) (m 79) (cueF (m 80)) i := w.2.2.1.2.2.2
theorem Inv.leapE (w : Inv sc ls t m) : ∀ i, 0 ≤ i → i < m 65 27 → m 38 i = leapM m i := w.2.2.2.1.2
theorem Inv.leapB (w : Inv sc ls t m) : ∀ i, 0 ≤ i → i < m 65 27 → -1 ≤ m 38 i ∧ m 38 i < m 65 27 := fun i i0 i1 => by
  rw [w.leapE i i0 i1]
  exact leapM_bnd ⟨i0, i1⟩
theorem Inv.e24 (w : Inv sc ls t m) : ∀ i, 0 ≤ i → i < m 65 27 → m 24 i = m 79 i := fun i i0 i1 => (w.row i i0 i1).1.1
theorem Inv.e26 (w : Inv sc ls t m) : ∀ i, 0 ≤ i → i < m 65 27 → m 26 i = m 81 i := fun i i0 i1 => (w.row i i0 i1).1.2.2.1
theorem Inv.e28 (w : Inv sc ls t m) : ∀ i, 0 ≤ i → i < m 65 27 → m 28 i = cueF (m 80) i := fun i i0 i1 => (w.row i i0 i1).2.2.1
theorem Inv.e30 (w : Inv sc ls t m) : ∀ i, 0 ≤ i → i < m 65 27 → m 30 i = likesF (m 65 27) (m 79) (cueF (m 80)) i := fun i i0 i1 => (w.row i i0 i1).2.2.2.2
theorem Inv.act (w : Inv sc ls t m) : ∀ i, 0 ≤ i → i < m 23 1 → 0 ≤ m 24 i ∧ m 24 i < 8 := fun i i0 i1 => by
  rw [w.size] at i1
  rw [w.e24 i i0 i1]
  have := w.n
  exact (w.play.2 i i0 (by omega)).1
theorem Inv.len (w : Inv sc ls t m) : ∀ i, 0 ≤ i → i < m 23 1 → 1 ≤ m 26 i ∧ m 26 i ≤ 99 := fun i i0 i1 => by
  rw [w.size] at i1
  rw [w.e26 i i0 i1]
  have := w.n
  exact ⟨(w.row i i0 i1).2.1, (w.play.2 i i0 (by omega)).2.2.2⟩
theorem Inv.playX (w : Inv sc ls t m) : playX m := ⟨w.nX, fun i i0 i1 => ⟨w.act i i0 i1, w.len i i0 i1, by
  rw [w.size] at i1 ⊢
  exact w.leapB i i0 i1⟩⟩
theorem perM_bnd (ls : Nat → lawT) (m : mmM) (i b : Int) : 0 ≤ perM ls m i b ∧ perM ls m i b ≤ 100 := by
  unfold perM
  split <;> omega
theorem Inv.forgets (w : Inv sc ls t m) {s : Int} (h : 0 ≤ s ∧ s < m 65 27) (mk : Int) : forgetsX m s (bitN mk s) = perM ls m s (bitN mk s) := by
  have e := w.2.2.2.2.1 s h.1 h.2
  unfold forgetsX
  rw [if_pos (by rw [w.size]; exact h)]
  rcases bitN_01 mk s with b | b
  · rw [b, if_pos rfl]
    exact e.1
  · rw [b, if_neg (by decide)]
    exact e.2
theorem Inv.takes (w : Inv sc ls t m) {s : Int} (h : 0 ≤ s ∧ s < m 65 27) : takeX m s = m 84 (m 79 s) ∧ 0 ≤ takeX m s ∧ takeX m s ≤ 100 := by
  have a := w.act s h.1 (by rw [w.size]; exact h.2)
  have e := w.2.2.2.1.1 (m 24 s) a.1 a.2
  unfold takeX
  rw [if_pos (by rw [w.size]; exact h), e.2.1, ← w.e24 s h.1 h.2]
  exact ⟨rfl, e.2.2.2⟩
theorem Inv.nightP (w : Inv sc ls t m) : nightP m := by
  refine ⟨w.playX, fun s b => ?_, fun s => ?_⟩
  · by_cases h : 0 ≤ s ∧ s < m 65 27
    · have e := w.2.2.2.2.1 s h.1 h.2
      unfold forgetsX
      rw [if_pos (by rw [w.size]; exact h)]
      split
      · rw [e.1]
        exact perM_bnd _ _ _ _
      · rw [e.2]
        exact perM_bnd _ _ _ _
    · unfold forgetsX
      rw [if_neg (by rw [w.size]; exact h)]
      omega
  · by_cases h : 0 ≤ s ∧ s < m 65 27
    · exact (w.takes h).2
    · unfold takeX
      rw [if_neg (by rw [w.size]; exact h)]
      omega
theorem Inv.takeM (w : Inv sc ls t m) : takeM m := fun a a0 a1 => (w.2.2.2.1.1 a a0 a1).2.2.2
/-- the law held -/
def heldL (ls : Nat → lawT) (m : mmM) : lawT := ls (m 65 28).toNat
theorem Inv.h28 (w : Inv sc ls t m) : -1 ≤ m 65 28 ∧ m 65 28 < 4 := by
  obtain ⟨i1, i2, i3, i4, -⟩ := w.2.1
  omega
theorem Inv.heldR (w : Inv sc ls t m) (h : ¬ m 65 28 = -1) : lawR m (m 65 28) (90 * m 65 28) (heldL ls m) ∧ 0 ≤ m 70 (m 65 28) ∧ m 70 (m 65 28) ≤ 90 := by
  obtain ⟨i1, i2, i3, i4, i5⟩ := w.2.1
  have e : ((m 65 28).toNat : Int) = m 65 28 := by omega
  have r := (i5 (m 65 28).toNat (by omega)).2
  rw [e] at r
  exact r
theorem mset31 (m : mmM) (mk : Int) {j : Int} (h : j ≠ 31) : mset m 65 31 mk 65 j = m 65 j := by rw [mset_at, if_neg h]
def fmI (ls : Nat → lawT) (m : mmM) (mk : Int) : Int → Int := forgF (mset m 65 31 mk) (heldL ls m)
theorem fmI_eq (ls : Nat → lawT) (m : mmM) (mk s : Int) : fmI ls m mk s = perM ls m s (bitN mk s) := by
  unfold fmI forgF perM heldL
  rw [mset31 m mk (by decide), mset_same, letM_of (m := mset m 65 31 mk) (mem := m) (fun a ha => mset_ne (by omega)) (mset31 m mk (by decide))]
theorem forgF_per (ls : Nat → lawT) (m : mmM) (s : Int) : forgF m (heldL ls m) s = perM ls m s (bitN (m 65 31) s) := rfl
theorem Inv.forgS (w : Inv sc ls t m) : forgS m (fmI ls m) := fun mk => by
  refine forgE_law (mset m 65 31 mk) (heldL ls m) (playM_congr w.play (mset31 m mk (by decide)) (mset_ne (by decide)) (mset_ne (by decide)) (mset_ne (by decide))) ?_ ?_
  · rw [mset31 m mk (by decide)]
    have := w.h28
    omega
  · rw [mset31 m mk (by decide), mset_ne (by decide)]
    intro g
    have r := w.heldR g
    exact ⟨lawR_same (fun a ha => mset_ne (by omega)) r.2.2 r.1, r.2⟩
theorem Inv.forgM (w : Inv sc ls t m) : forgM m (forgF m (heldL ls m)) := forgM_law m _ w.play (by have := w.h28; omega) w.heldR
theorem Inv.bytX (w : Inv sc ls t m) : bytX m := ⟨w.1.1, fun i i0 i1 => ⟨(w.1.2.2.2 i i0 i1).1, (w.1.2.2.2 i i0 i1).2.1⟩⟩
theorem Inv.bytM (w : Inv sc ls t m) : bytM m := ⟨by rw [w.1.2.1]; exact w.1.1, fun i i0 i1 => by rw [w.1.2.2.1 i i1]; exact ⟨(w.1.2.2.2 i i0 i1).1, (w.1.2.2.2 i i0 i1).2.1⟩⟩
theorem Inv.posM (w : Inv sc ls t m) : posM m := fun i i0 i1 => by
  have a := w.1.1
  have b := w.1.2.1
  rw [w.1.2.2.1 i (by omega)]
  exact (w.1.2.2.2 i i0 (by omega)).2.2 (by omega)
theorem Inv.lawsX (w : Inv sc ls t m) : lawsX m (heldL ls m) := by
  obtain ⟨i1, i2, i3, i4, i5⟩ := w.2.1
  unfold heldL
  rw [i4]
  refine ⟨by omega, fun z => ?_, fun z => ?_, fun z => ?_, fun z => ?_⟩
  · have r := (i5 0 (by omega)).1
    rw [show (m 0 12).toNat = 0 by omega]
    exact r
  · have r := (i5 1 (by omega)).1
    rw [show (m 0 12).toNat = 1 by omega]
    exact r
  · have r := (i5 2 (by omega)).1
    rw [show (m 0 12).toNat = 2 by omega]
    exact r
  · have r := (i5 3 (by omega)).1
    rw [show (m 0 12).toNat = 3 by omega]
    exact r
end
/-! the two calls of a step of the law -/
theorem same_eq {mem m : mmM} (h : m = mem) : same mem m := by
  rw [h]
  exact same_refl _
theorem keep999 {mem m : mmM} (h : same mem m) : m 999 = mem 999 := h.1 999 (by unfold keepC; omega)
def stp (k : Nat) (BX : mmB) (dX : Nat) (aX : List mmV) (BM : mmB) (dM : Nat) (aM : List mmV) (mem : mmM) (J : mmM → Prop) : Prop := con k BX dX aX mem (fun v1 m1 => m1 999 = mem 999 ∧ con k BM dM aM m1 (fun v2 m2 => v1 = v2 ∧ J m2))
theorem stp_of {k : Nat} {BX : mmB} {dX : Nat} {aX : List mmV} {BM : mmB} {dM : Nat} {aM : List mmV} {mem : mmM} {J : mmM → Prop} {Q1 : Int → mmM → Prop} {Q2 : mmM → Int → mmM → Prop} (c1 : con k BX dX aX mem Q1) (c2 : ∀ v1 m1, Q1 v1 m1 → con k BM dM aM m1 (Q2 m1)) (h : ∀ v1 m1 v2 m2, Q1 v1 m1 → Q2 m1 v2 m2 → v1 = v2 ∧ J m2) (c3 : ∀ v1 m1, Q1 v1 m1 → m1 999 = mem 999 := by intro v1 m1 q; first | exact keep999 (same_eq q.2) | exact keep999 (same_rw q.2) | exact keep999 (same_pl q.2) | exact keep999 (same_ext q.2) | exact keep999 (same_odd q.2) | exact keep999 (same_odd q.1) | exact keep999 (same_tr q.2)) : stp k BX dX aX BM dM aM mem J := con.mono c1 (fun v1 m1 q => ⟨c3 v1 m1 q, con.mono (c2 v1 m1 q) (fun v2 m2 q2 => h v1 m1 v2 m2 q q2)⟩)
