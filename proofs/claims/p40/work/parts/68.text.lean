/-! a text: where the fault of a book's text lies -/
theorem sp_f {mem : mmM} {j f : Int} (h0 : 0 ≤ j) (h1 : j ≤ mem 1 1) (h : spS (CX mem) (SX mem) j = .inl f) : 0 ≤ f ∧ f ≤ mem 1 1 := by
  have g1 := SX_ge mem j
  have l1 := SX_le (mem := mem) (j := j) h1
  unfold spS at h
  by_cases a : 65 ≤ CX mem (SX mem j) ∧ CX mem (SX mem j) ≤ 72
  · rw [if_neg (fun z => z a)] at h
    have t1 := CX_lt (mem := mem) (j := SX mem j) (by omega)
    have g2 := SX_ge mem (SX mem j + 1)
    have l2 := SX_le (mem := mem) (j := SX mem j + 1) (by omega)
    by_cases b : 97 ≤ CX mem (SX mem (SX mem j + 1)) ∧ CX mem (SX mem (SX mem j + 1)) ≤ 122
    · rw [if_neg (fun z => z b)] at h
      have t2 := CX_lt (mem := mem) (j := SX mem (SX mem j + 1)) (by omega)
      have g3 := SX_ge mem (SX mem (SX mem j + 1) + 1)
      have l3 := SX_le (mem := mem) (j := SX mem (SX mem j + 1) + 1) (by omega)
      obtain ⟨p, hp⟩ : ∃ p, SX mem (SX mem (SX mem j + 1) + 1) = p := ⟨_, rfl⟩
      rw [hp] at h g3 l3
      have nb := numS_bnd (C := CX mem) (n := mem 1 1) (fun i z => CX_lt z) 2 p l3
      by_cases c : digC (CX mem p)
      · rw [if_neg (fun z => z c)] at h
        by_cases d : (numS (CX mem) 2 p).1 = -1
        · rw [if_pos d] at h
          cases h
          omega
        · rw [if_neg d] at h
          have ad : p < (numS (CX mem) 2 p).2 := numS_adv (C := CX mem) (k := 1) d
          by_cases e : (numS (CX mem) 2 p).1 < 1
          · rw [if_pos e] at h
            cases h
            omega
          · rw [if_neg e] at h
            cases h
      · rw [if_pos c] at h
        cases h
    · rw [if_pos b] at h
      cases h
      omega
  · rw [if_pos a] at h
    cases h
    omega
theorem cut_f {mem : mmM} {cnt lo left j f : Int} (h0 : 0 ≤ j) (h1 : j ≤ mem 1 1) (h : cutS (CX mem) (SX mem) cnt lo left j = .inl f) : 0 ≤ f ∧ f ≤ mem 1 1 := by
  have g1 := SX_ge mem j
  have l1 := SX_le (mem := mem) (j := j) h1
  unfold cutS at h
  obtain ⟨p, hp⟩ : ∃ p, SX mem j = p := ⟨_, rfl⟩
  rw [hp] at h g1 l1
  have nb := numS_bnd (C := CX mem) (n := mem 1 1) (fun i z => CX_lt z) 2 p l1
  by_cases a : (numS (CX mem) 2 p).1 = -1
  · rw [if_pos a] at h
    cases h
    omega
  · rw [if_neg a] at h
    have ad : p < (numS (CX mem) 2 p).2 := numS_adv (C := CX mem) (k := 1) a
    obtain ⟨r, hr⟩ : ∃ r, numS (CX mem) 2 p = r := ⟨_, rfl⟩
    rw [hr] at h nb ad
    by_cases b : r.1 ≤ lo ∨ cnt ≤ r.1
    · rw [if_pos b] at h
      cases h
      omega
    · rw [if_neg b] at h
      have g2 := SX_ge mem r.2
      have l2 := SX_le (mem := mem) (j := r.2) nb.2.1
      by_cases c : CX mem (SX mem r.2) = 45
      · rw [if_neg (fun z => z c)] at h
        have t2 := CX_lt (mem := mem) (j := SX mem r.2) (by omega)
        have g3 := SX_ge mem (SX mem r.2 + 1)
        have l3 := SX_le (mem := mem) (j := SX mem r.2 + 1) (by omega)
        obtain ⟨u, hu⟩ : ∃ u, SX mem (SX mem r.2 + 1) = u := ⟨_, rfl⟩
        rw [hu] at h g3 l3
        have nb2 := numS_bnd (C := CX mem) (n := mem 1 1) (fun i z => CX_lt z) 2 u l3
        by_cases d : (numS (CX mem) 2 u).1 = -1
        · rw [if_pos d] at h
          cases h
          omega
        · rw [if_neg d] at h
          have ad2 : u < (numS (CX mem) 2 u).2 := numS_adv (C := CX mem) (k := 1) d
          by_cases e : (numS (CX mem) 2 u).1 < r.1 ∨ cnt ≤ (numS (CX mem) 2 u).1 ∨ left - ((numS (CX mem) 2 u).1 - r.1 + 1) < 2
          · rw [if_pos e] at h
            cases h
            omega
          · rw [if_neg e] at h
            cases h
      · rw [if_pos c] at h
        cases h
        omega
theorem rest_f {mem : mmM} (hb : bytX mem) {f : Int} : ∀ (k : Nat) (i j : Int) (A W L : Int → Int), 0 ≤ j → j ≤ mem 1 1 → restS (CX mem) (SX mem) k i j A W L = .inl f → 0 ≤ f ∧ f ≤ mem 1 1 := by
  intro k
  induction k with
  | zero =>
    intro i j A W L _ _ h
    cases h
  | succ k ih =>
    intro i j A W L j0 j1 h
    cases hs : spS (CX mem) (SX mem) j with
    | inl e =>
      rw [restS_l hs] at h
      cases h
      exact sp_f j0 j1 hs
    | inr x =>
      obtain ⟨t, a, w, l⟩ := x
      rw [restS_r hs] at h
      have sb := spS_bnd hb j0 j1 hs
      have g := SX_ge mem t
      unfold aftS at h
      by_cases z : CX mem (SX mem t) = 44 ∧ k ≠ 0
      · rw [if_pos z] at h
        have l := CX_lt (mem := mem) (j := SX mem t) (by omega)
        exact ih _ _ _ _ _ (by omega) (by omega) h
      · rw [if_neg z] at h
        cases h
theorem cuts_f {mem : mmM} {cnt f : Int} : ∀ (k : Nat) (lo left j : Int) (K : Int → Int), 0 ≤ j → j ≤ mem 1 1 → cutsS (CX mem) (SX mem) cnt k lo left j K = .inl f → 0 ≤ f ∧ f ≤ mem 1 1 := by
  intro k
  induction k with
  | zero =>
    intro lo left j K _ _ h
    cases h
  | succ k ih =>
    intro lo left j K j0 j1 h
    cases hs : cutS (CX mem) (SX mem) cnt lo left j with
    | inl e =>
      rw [cutsS_l hs] at h
      cases h
      exact cut_f j0 j1 hs
    | inr x =>
      obtain ⟨t, a, b⟩ := x
      rw [cutsS_r hs] at h
      have sb := cutS_bnd j1 hs
      have g := SX_ge mem t
      unfold aftC at h
      by_cases z : CX mem (SX mem t) = 44
      · rw [if_pos z] at h
        have l := CX_lt (mem := mem) (j := SX mem t) (by omega)
        exact ih _ _ _ _ (by omega) (by omega) h
      · rw [if_neg z] at h
        cases h
theorem book_f {mem : mmM} (hb : bytX mem) {A W L K : Int → Int} {f : Int} (h : bookS (CX mem) (SX mem) A W L K = .inl f) : 0 ≤ f ∧ f ≤ mem 1 1 := by
  have hn := hb.1
  unfold bookS at h
  cases hr : restS (CX mem) (SX mem) 24 0 0 A W L with
  | inl e =>
    rw [hr] at h
    cases h
    exact rest_f hb 24 0 0 A W L (by omega) (by omega) hr
  | inr x =>
    obtain ⟨c, u, A', W', L'⟩ := x
    rw [hr] at h
    have rc := restS_cnt hb 24 0 0 A W L (by omega) (by omega) hr
    have h' : (if c ≤ 1 then (.inl u : bookR) else if CX mem u = 59 then (match cutsS (CX mem) (SX mem) c 24 (-1) c (u + 1) K with
      | .inl f => .inl f
      | .inr (v, K') => if CX mem (SX mem v) = 0 then .inr (c, A', W', L', K') else .inl (SX mem v)) else if CX mem u = 0 then .inr (c, A', W', L', K) else .inl u) = .inl f := h
    by_cases z1 : c ≤ 1
    · rw [if_pos z1] at h'
      cases h'
      exact rc.2.1
    · rw [if_neg z1] at h'
      by_cases z2 : CX mem u = 59
      · rw [if_pos z2] at h'
        have l := CX_lt (mem := mem) (j := u) (by omega)
        cases hc : cutsS (CX mem) (SX mem) c 24 (-1) c (u + 1) K with
        | inl e =>
          rw [hc] at h'
          cases h'
          exact cuts_f 24 (-1) c (u + 1) K (by omega) (by omega) hc
        | inr y =>
          obtain ⟨v, K'⟩ := y
          rw [hc] at h'
          have h2 : (if CX mem (SX mem v) = 0 then (.inr (c, A', W', L', K') : bookR) else .inl (SX mem v)) = .inl f := h'
          have cp := cutsS_pos 24 (-1) c (u + 1) K (by omega) (by omega) hc
          have gv := SX_ge mem v
          have lv := SX_le (mem := mem) (j := v) cp.2
          by_cases z3 : CX mem (SX mem v) = 0
          · rw [if_pos z3] at h2
            cases h2
          · rw [if_neg z3] at h2
            cases h2
            omega
      · rw [if_neg z2] at h'
        by_cases z3 : CX mem u = 0
        · rw [if_pos z3] at h'
          cases h'
        · rw [if_neg z3] at h'
          cases h'
          exact rc.2.1
def spR (A W L : Int → Int) (c : Int) : Prop := ∀ x, 0 ≤ x → x < c → (0 ≤ A x ∧ A x < 8) ∧ (0 ≤ W x ∧ W x < 26) ∧ (1 ≤ L x ∧ L x ≤ 99)
theorem spR_upd {A W L : Int → Int} {c a w l : Int} (h : spR A W L c) (ha : 0 ≤ a ∧ a < 8) (hw : 0 ≤ w ∧ w < 26) (hl : 1 ≤ l ∧ l ≤ 99) : spR (updF A c a) (updF W c w) (updF L c l) (c + 1) := by
  intro x x0 x1
  unfold updF
  by_cases q : x = c
  · rw [if_pos q, if_pos q, if_pos q]
    exact ⟨ha, hw, hl⟩
  · rw [if_neg q, if_neg q, if_neg q]
    exact h x x0 (by omega)
theorem rest_r {mem : mmM} (hb : bytX mem) {c u : Int} {A' W' L' : Int → Int} : ∀ (k : Nat) (i j : Int) (A W L : Int → Int), 0 ≤ j → j ≤ mem 1 1 → spR A W L i → restS (CX mem) (SX mem) k i j A W L = .inr (c, u, A', W', L') → spR A' W' L' c := by
  intro k
  induction k with
  | zero =>
    intro i j A W L _ _ hr h
    cases h
    exact hr
  | succ k ih =>
    intro i j A W L j0 j1 hr h
    cases hs : spS (CX mem) (SX mem) j with
    | inl e =>
      rw [restS_l hs] at h
      cases h
    | inr x =>
      obtain ⟨t, a, w, l⟩ := x
      rw [restS_r hs] at h
      have sb := spS_bnd hb j0 j1 hs
      have g := SX_ge mem t
      have up := spR_upd hr sb.2.1 sb.2.2.1 sb.2.2.2
      unfold aftS at h
      by_cases z : CX mem (SX mem t) = 44 ∧ k ≠ 0
      · rw [if_pos z] at h
        have l := CX_lt (mem := mem) (j := SX mem t) (by omega)
        exact ih _ _ _ _ _ (by omega) (by omega) up h
      · rw [if_neg z] at h
        cases h
        exact up
theorem book_r {mem : mmM} (hb : bytX mem) {A W L K A' W' L' K' : Int → Int} {c : Int} (h : bookS (CX mem) (SX mem) A W L K = .inr (c, A', W', L', K')) : (2 ≤ c ∧ c ≤ 24) ∧ spR A' W' L' c := by
  have hn := hb.1
  unfold bookS at h
  cases hr : restS (CX mem) (SX mem) 24 0 0 A W L with
  | inl e =>
    rw [hr] at h
    cases h
  | inr x =>
    obtain ⟨d, u, B, V, M⟩ := x
    rw [hr] at h
    have rc := restS_cnt hb 24 0 0 A W L (by omega) (by omega) hr
    have rr := rest_r hb 24 0 0 A W L (by omega) (by omega) (fun x x0 x1 => by omega) hr
    have h' : (if d ≤ 1 then (.inl u : bookR) else if CX mem u = 59 then (match cutsS (CX mem) (SX mem) d 24 (-1) d (u + 1) K with
      | .inl f => .inl f
      | .inr (v, K') => if CX mem (SX mem v) = 0 then .inr (d, B, V, M, K') else .inl (SX mem v)) else if CX mem u = 0 then .inr (d, B, V, M, K) else .inl u) = .inr (c, A', W', L', K') := h
    by_cases z1 : d ≤ 1
    · rw [if_pos z1] at h'
      cases h'
    · rw [if_neg z1] at h'
      by_cases z2 : CX mem u = 59
      · rw [if_pos z2] at h'
        cases hc : cutsS (CX mem) (SX mem) d 24 (-1) d (u + 1) K with
        | inl e =>
          rw [hc] at h'
          cases h'
        | inr y =>
          obtain ⟨v, K2⟩ := y
          rw [hc] at h'
          have h2 : (if CX mem (SX mem v) = 0 then (.inr (d, B, V, M, K2) : bookR) else .inl (SX mem v)) = .inr (c, A', W', L', K') := h'
          by_cases z3 : CX mem (SX mem v) = 0
          · rw [if_pos z3] at h2
            cases h2
            exact ⟨by omega, rr⟩
          · rw [if_neg z3] at h2
            cases h2
      · rw [if_neg z2] at h'
        by_cases z3 : CX mem u = 0
        · rw [if_pos z3] at h'
          cases h'
          exact ⟨by omega, rr⟩
        · rw [if_neg z3] at h'
          cases h'
/-! fault -/
/-! text, of the class -/
/-- law k put into its place -/
def putLX (m1 : mmM) (k : Nat) (m : mmM) : Prop := (∀ a, a ≠ 0 → a ≠ 1 → a ≠ 11 + 3 * k → a ≠ 12 + 3 * k → m a = m1 a) ∧ (∀ j, j ≠ 11 → m 0 j = m1 0 j) ∧ m 0 11 = (k : Int) + 1 ∧ (∀ j, j ≠ 1 → m 1 j = m1 1 j) ∧ m 1 1 = 0 ∧ (∀ j, j ≠ 1 → m (11 + 3 * k) j = m1 (11 + 3 * k) j) ∧ m (11 + 3 * k) 1 = m1 8 2 ∧ ∀ i, 0 ≤ i → i < m1 8 2 → m (12 + 3 * k) i = m1 9 i
def textX (mem : mmM) (cl : lawT) (x v : Int) (m : mmM) : Prop := (x = 0 ∧ ((∃ f, bookS (CX mem) (SX mem) (mem 4) (mem 5) (mem 6) (cut0 mem) = .inl f ∧ v = -1 ∧ rdFr mem m) ∨ (∃ c A W L K m1, bookS (CX mem) (SX mem) (mem 4) (mem 5) (mem 6) (cut0 mem) = .inr (c, A, W, L, K) ∧ bookX mem (.inr (c, A, W, L, K)) (-1) m1 ∧ v = (keptS (m1 7) (m1 3 5).toNat).1 ∧ tookX m1 cl m)))
  ∨ (x = 1 ∧ ((4 ≤ mem 0 11 ∧ v = -1 ∧ m = mem) ∨ (mem 0 11 < 4 ∧ ∃ f, lawP (CX mem) (SX mem) 200 0 = .inl f ∧ v = -1 ∧ lxFr mem m) ∨ (mem 0 11 < 4 ∧ ∃ cl' m1, ∃ k : Nat, lawP (CX mem) (SX mem) 200 0 = .inr cl' ∧ lawRX mem (.inr cl') (-1) m1 ∧ mem 0 11 = k ∧ v = k ∧ putLX m1 k m)))
  ∨ (¬ x = 0 ∧ ¬ x = 1 ∧ v = -1 ∧ m = mem)
theorem bookX_yes {mem m : mmM} {v : Int} {A W L K : Int → Int} (hb : bytX mem) (h : bookX mem (bookS (CX mem) (SX mem) A W L K) v m) (g : v = -1) : ∃ c A' W' L' K', bookS (CX mem) (SX mem) A W L K = .inr (c, A', W', L', K') ∧ bookX mem (.inr (c, A', W', L', K')) (-1) m := by
  cases hr : bookS (CX mem) (SX mem) A W L K with
  | inl f =>
    have := book_f hb hr
    rw [hr] at h
    have := h.1
    omega
  | inr y =>
    obtain ⟨c, A', W', L', K'⟩ := y
    rw [hr] at h
    exact ⟨c, A', W', L', K', rfl, rfl, h.2⟩
theorem bookX_no {mem m : mmM} {v : Int} {R : bookR} (h : bookX mem R v m) (g : ¬ v = -1) : ∃ f, R = .inl f ∧ rdFr mem m := by
  cases R with
  | inl f => exact ⟨f, rfl, h.2⟩
  | inr y =>
    obtain ⟨c, A', W', L', K'⟩ := y
    exact absurd h.1 g
theorem bookX_R {mem m : mmM} {v : Int} {A W L K : Int → Int} (hb : bytX mem) (h : bookX mem (bookS (CX mem) (SX mem) A W L K) v m) : R32 v := by
  have hn := hb.1
  cases hr : bookS (CX mem) (SX mem) A W L K with
  | inl f =>
    have := book_f hb hr
    rw [hr] at h
    have := h.1
    exact ⟨by omega, by omega⟩
  | inr y =>
    obtain ⟨c, A', W', L', K'⟩ := y
    rw [hr] at h
    rw [h.1]
    exact ⟨by decide, by decide⟩
theorem readX_of {mem m : mmM} {v c : Int} {A W L K A' W' L' K' : Int → Int} (hb : bytX mem) (e : bookS (CX mem) (SX mem) A W L K = .inr (c, A', W', L', K')) (w : bookX mem (.inr (c, A', W', L', K')) v m) : readX m := by
  obtain ⟨hc, hr⟩ := book_r hb e
  obtain ⟨-, -, w5, w4, w6, w7, -⟩ := w
  refine ⟨by omega, fun i i0 i1 => ?_⟩
  rw [w4, w6, w7]
  exact hr i i0 (by omega)
theorem lawsX_same {mem m : mmM} {cl : lawT} (h0 : m 0 12 = mem 0 12) (h : ∀ a, 11 ≤ a → a ≤ 21 → m a = mem a) (hl : lawsX mem cl) : lawsX m cl := by
  unfold lawsX
  rw [h0, h 11 (by decide) (by decide), h 12 (by decide) (by decide), h 14 (by decide) (by decide), h 15 (by decide) (by decide), h 17 (by decide) (by decide), h 18 (by decide) (by decide), h 20 (by decide) (by decide), h 21 (by decide) (by decide)]
  exact hl
theorem lawsX_rd {mem m : mmM} {cl : lawT} (fr : rdFr mem m) (hl : lawsX mem cl) : lawsX m cl := lawsX_same (by rw [fr.1 0 (by decide) (by decide) (by decide) (by decide) (by decide) (by decide)]) (fun a a0 a1 => fr.1 a (by omega) (by omega) (by omega) (by omega) (by omega) (by omega)) hl
theorem lawRX_yes {mem m : mmM} {v : Int} (hb : bytX mem) (h : lawRX mem (lawP (CX mem) (SX mem) 200 0) v m) (g : v = -1) : ∃ cl, lawP (CX mem) (SX mem) 200 0 = .inr cl ∧ lawRX mem (.inr cl) (-1) m := by
  have hn := hb.1
  cases hr : lawP (CX mem) (SX mem) 200 0 with
  | inl f =>
    have := good_law (tapX_P mem) 200 0 (by decide) (by omega) f hr
    rw [hr] at h
    have := h.1
    omega
  | inr cl =>
    rw [hr] at h
    exact ⟨cl, rfl, rfl, h.2⟩
theorem lawRX_no {mem m : mmM} {v : Int} {R : Int ⊕ lawT} (h : lawRX mem R v m) (g : ¬ v = -1) : ∃ f, R = .inl f ∧ lxFr mem m := by
  cases R with
  | inl f => exact ⟨f, rfl, h.2⟩
  | inr cl => exact absurd h.1 g
theorem lawRX_R {mem m : mmM} {v : Int} (hb : bytX mem) (h : lawRX mem (lawP (CX mem) (SX mem) 200 0) v m) : R32 v := by
  have hn := hb.1
  cases hr : lawP (CX mem) (SX mem) 200 0 with
  | inl f =>
    have := good_law (tapX_P mem) 200 0 (by decide) (by omega) f hr
    rw [hr] at h
    have := h.1
    exact ⟨by omega, by omega⟩
  | inr cl =>
    rw [hr] at h
    rw [h.1]
    exact ⟨by decide, by decide⟩
theorem cn_X11_text_0 {d : Nat} {P : Int → mmM → Prop} {mem : mmM} {x1 : Int} (h : mmT bX11_text d 0 0 (mQ 0 P) 0 [(2, 0), (0, x1)] [] mS mem) : con 0 bX11_text d [(2, 0), (0, x1)] mem P := mmC_of [(2, 0), (0, x1)] ok_X11_text.2.2.2.2 rfl (Nat.le_of_ble_eq_true rfl) h
theorem bk_X11_text_0_0 {d : Nat} {d1 : Nat} {P1 : Int → mmM → Prop} {d2 : Nat} {P2 : Int → mmM → Prop} {P : Int → mmM → Prop} {mem : mmM} {x1 : Int}
  (c1 : x1 = 0 → con 0 bX0_read d1 [(2, 3)] mem P1)
  (c2 : x1 = 0 → ∀ (v1 : Int), ∀ (m1 : mmM), P1 v1 m1 → v1 = (-1) → con 0 bX11_takeBook d2 [(2, 0)] m1 P2)
  (k1 : ¬ x1 = 0 → mmT bX11_text d 0 0 (mQ 0 P) 20 [(2, 0), (0, x1)] [] mS mem)
  (k2 : x1 = 0 → ∀ (v1 : Int), ∀ (m1 : mmM), P1 v1 m1 → ¬ v1 = (-1) → mmT bX11_text d 0 0 (mQ 0 P) 20 [(2, 0), (0, x1)] [] mS m1)
  (q1 : x1 = 0 → ∀ (v1 : Int), ∀ (m1 : mmM), P1 v1 m1 → v1 = (-1) → ∀ (v2 : Int), ∀ (m2 : mmM), P2 v2 m2 → P v2 m2)
  (hd_d1 : d1 + 1 ≤ d := by omega)
  (hd_d2 : d2 + 1 ≤ d := by omega)
  (s1 : R32 x1 := by intros; first | omega | assumption | solve_by_elim)
  (s2 : x1 = 0 → ∀ (v1 : Int), ∀ (m1 : mmM), P1 v1 m1 → R32 v1 := by intros; first | omega | assumption | solve_by_elim)
  : mmT bX11_text d 0 0 (mQ 0 P) 0 [(2, 0), (0, x1)] [] mS mem := by
  refine st_iload_n (i := 1) rfl rfl dX11_text_0 ?_
  refine sr_if_ne 20 s1 (by decide) dX11_text_1 (fun h1 => ?_) (fun h1 => ?_)
  · have h1 : ¬ x1 = 0 := by omega
    exact st_locals [(2, 0), (0, x1)] ⟨Or.inr rfl, Or.inr rfl, trivial⟩ (k1 h1)
  · have h1 : x1 = 0 := by omega
    refine st_aload_n (i := 0) rfl (t := 0) rfl (by decide) dX11_text_4 ?_
    refine so_getA 0 1 fr_X11_21_10 rfl sh_0 fx_0_1 dX11_text_5 ?_
    refine st_callV (kc2 := 0) (ks2 := 0) (av := []) 3 0 mr_X11_103 ok_X0_read (c1 h1) rfl sh_3 ⟨_, rfl, rfl, by decide⟩ rfl rfl hd_d1 (Nat.le_refl 0) (Nat.le_refl 0) (Nat.le_of_ble_eq_true rfl) dX11_text_8 (mQ.elim fun v1 m1 p1 => ?_)
    refine st_iconst dX11_text_11 ?_
    refine sr_icmp_ne 20 (s2 h1 v1 m1 p1) ⟨by decide, by decide⟩ (by decide) dX11_text_12 (fun h2 => ?_) (fun h2 => ?_)
    · have h2 : ¬ v1 = (-1) := by omega
      exact st_locals [(2, 0), (0, x1)] ⟨Or.inr rfl, Or.inr rfl, trivial⟩ (k2 h1 v1 m1 p1 h2)
    · have h2 : v1 = (-1) := by omega
      refine st_aload_n (i := 0) rfl (t := 0) rfl (by decide) dX11_text_15 ?_
      refine st_callV (kc2 := 0) (ks2 := 0) (av := []) 0 10 mr_X11_108 ok_X11_takeBook (c2 h1 v1 m1 p1 h2) rfl sh_0 ⟨_, rfl, rfl, by decide⟩ rfl rfl hd_d2 (Nat.le_refl 0) (Nat.le_refl 0) (Nat.le_of_ble_eq_true rfl) dX11_text_16 (mQ.elim fun v2 m2 p2 => ?_)
      exact st_ireturn rfl dX11_text_19 (mQ.ret (q1 h1 v1 m1 p1 h2 v2 m2 p2))
theorem bk_X11_text_0_20 {d : Nat} {d1 : Nat} {P1 : Int → mmM → Prop} {P : Int → mmM → Prop} {mem : mmM} {x1 : Int}
  (c1 : x1 = 1 → (mem 0 11) < 4 → con 0 bX3_read d1 [(2, 8)] mem P1)
  (k1 : x1 = 1 → (mem 0 11) < 4 → ∀ (v1 : Int), ∀ (m1 : mmM), P1 v1 m1 → v1 = (-1) → mmT bX11_text d 0 0 (mQ 0 P) 48 [(2, 0), (9, 0)] [] mS m1)
  (q1 : ¬ x1 = 1 → P (-1) mem)
  (q2 : x1 = 1 → 4 ≤ (mem 0 11) → P (-1) mem)
  (q3 : x1 = 1 → (mem 0 11) < 4 → ∀ (v1 : Int), ∀ (m1 : mmM), P1 v1 m1 → ¬ v1 = (-1) → P (-1) m1)
  (hd_d1 : d1 + 1 ≤ d := by omega)
  (s1 : R32 x1 := by intros; first | omega | assumption | solve_by_elim)
  (s2 : x1 = 1 → (mem 0 11) < 4 → ∀ (v1 : Int), ∀ (m1 : mmM), P1 v1 m1 → R32 v1 := by intros; first | omega | assumption | solve_by_elim)
  : mmT bX11_text d 0 0 (mQ 0 P) 20 [(2, 0), (0, x1)] [] mS mem := by
  refine st_iload_n (i := 1) rfl rfl dX11_text_20 ?_
  refine st_iconst dX11_text_21 ?_
  refine sr_icmp_ne 89 s1 ⟨by decide, by decide⟩ (by decide) dX11_text_22 (fun h1 => ?_) (fun h1 => ?_)
  · have h1 : ¬ x1 = 1 := by omega
    refine st_iconst dX11_text_89 ?_
    exact st_ireturn rfl dX11_text_90 (mQ.ret (q1 h1))
  · have h1 : x1 = 1 := by omega
    refine st_aload_n (i := 0) rfl (t := 0) rfl (by decide) dX11_text_25 ?_
    refine so_getI (v := (mem 0 11)) 0 11 fr_X11_111_10 rfl sh_0 rfl dX11_text_26 (fun r1 => ?_)
    refine st_aload_n (i := 0) rfl (t := 0) rfl (by decide) dX11_text_29 ?_
    refine so_getA 0 3 fr_X11_34_10 rfl sh_0 fx_0_3 dX11_text_30 ?_
    refine so_alen (v := 4) 10 rfl sh_10 (by decide) rfl dX11_text_33 ?_
    refine sr_icmp_ge 89 r1 ⟨by decide, by decide⟩ (by decide) dX11_text_34 (fun h2 => ?_) (fun h2 => ?_)
    · have h2 : 4 ≤ (mem 0 11) := by omega
      refine st_iconst dX11_text_89 ?_
      exact st_ireturn rfl dX11_text_90 (mQ.ret (q2 h1 h2))
    · have h2 : (mem 0 11) < 4 := by omega
      refine st_aload_n (i := 0) rfl (t := 0) rfl (by decide) dX11_text_37 ?_
      refine so_getA 0 2 fr_X11_28_10 rfl sh_0 fx_0_2 dX11_text_38 ?_
      refine st_callV (kc2 := 0) (ks2 := 0) (av := []) 8 3 mr_X11_107 ok_X3_read (c1 h1 h2) rfl sh_8 ⟨_, rfl, rfl, by decide⟩ rfl rfl hd_d1 (Nat.le_refl 0) (Nat.le_refl 0) (Nat.le_of_ble_eq_true rfl) dX11_text_41 (mQ.elim fun v1 m1 p1 => ?_)
      refine st_iconst dX11_text_44 ?_
      refine sr_icmp_ne 89 (s2 h1 h2 v1 m1 p1) ⟨by decide, by decide⟩ (by decide) dX11_text_45 (fun h3 => ?_) (fun h3 => ?_)
      · have h3 : ¬ v1 = (-1) := by omega
        refine st_iconst dX11_text_89 ?_
        exact st_ireturn rfl dX11_text_90 (mQ.ret (q3 h1 h2 v1 m1 p1 h3))
      · have h3 : v1 = (-1) := by omega
        exact st_locals [(2, 0), (9, 0)] ⟨Or.inr rfl, Or.inl rfl, trivial⟩ (k1 h1 h2 v1 m1 p1 h3)
theorem bk_X11_text_0_48 {d : Nat} {d1 : Nat} {P1 : mmM → Prop} {P : Int → mmM → Prop} {mem : mmM}
  (oi_0 : (mem 0 11) = 0)
  (c1 : conv bX2_put d1 [(2, 11), (2, 8)] (mset mem 1 1 0) P1)
  (q1 : ∀ (m1 : mmM), P1 m1 → P (((m1 0 11) + 1) - 1) (mset m1 0 11 ((m1 0 11) + 1)))
  (hd_d1 : d1 + 1 ≤ d := by omega)
  (s1 : ∀ (m1 : mmM), P1 m1 → R32 ((m1 0 11) + 1) := by intros; first | omega | assumption | solve_by_elim)
  : mmT bX11_text d 0 0 (mQ 0 P) 48 [(2, 0), (9, 0)] [] mS mem := by
  refine st_aload_n (i := 0) rfl (t := 0) rfl (by decide) dX11_text_48 ?_
  refine so_getA 0 0 fr_X11_10_10 rfl sh_0 fx_0_0 dX11_text_49 ?_
  refine st_iconst dX11_text_52 ?_
  refine so_putI 1 1 fr_X11_96_9 pf_9_1 fo_1_1 rfl sh_1 ⟨by decide, by decide⟩ dX11_text_53 ?_
  refine st_aload_n (i := 0) rfl (t := 0) rfl (by decide) dX11_text_56 ?_
  refine so_getA 0 3 fr_X11_34_10 rfl sh_0 fx_0_3 dX11_text_57 ?_
  refine st_aload_n (i := 0) rfl (t := 0) rfl (by decide) dX11_text_60 ?_
  refine so_getI (v := (mem 0 11)) 0 11 fr_X11_111_10 rfl sh_0 rfl dX11_text_61 (fun r1 => ?_)
  refine so_aald (v := 11) 10 (by decide) rfl sh_10 (by decide) (by omega) (fun hfx => by rw [oi_0]; exact hfx _ fx_10_0) dX11_text_64 ?_
  refine st_aload_n (i := 0) rfl (t := 0) rfl (by decide) dX11_text_65 ?_
  refine so_getA 0 2 fr_X11_28_10 rfl sh_0 fx_0_2 dX11_text_66 ?_
  refine st_callV (kc2 := 0) (ks2 := 0) (av := [(2, 8)]) 11 2 mr_X11_114 ok_X2_put c1 rfl sh_11 ⟨_, rfl, rfl, by decide⟩ rfl rfl hd_d1 (Nat.le_refl 0) (Nat.le_refl 0) (Nat.le_of_ble_eq_true rfl) dX11_text_69 (mQv.elim fun m1 p1 => ?_)
  refine st_aload_n (i := 0) rfl (t := 0) rfl (by decide) dX11_text_72 ?_
  refine st_dup (Nat.ne_of_beq_eq_false rfl) dX11_text_73 ?_
  refine so_getI (v := (m1 0 11)) 0 11 fr_X11_111_10 rfl sh_0 rfl dX11_text_74 (fun r2 => ?_)
  refine st_iconst dX11_text_77 ?_
  refine st_iadd dX11_text_78 ?_
  refine so_putI 0 11 fr_X11_111_10 pf_10_11 fo_0_11 rfl sh_0 (s1 m1 p1) dX11_text_79 ?_
  refine st_aload_n (i := 0) rfl (t := 0) rfl (by decide) dX11_text_82 ?_
  refine so_getI (v := ((m1 0 11) + 1)) 0 11 fr_X11_111_10 rfl sh_0 rfl dX11_text_83 (fun r3 => ?_)
  refine st_iconst dX11_text_86 ?_
  refine st_isub dX11_text_87 ?_
  exact st_ireturn rfl dX11_text_88 (mQ.ret (q1 m1 p1))
theorem c_X11_text_0 (mem : mmM) (x : Int) (cl : lawT) (hx : R32 x) (hb : bytX mem) (hl : lawsX mem cl) (hk : mem 0 11 ≤ 4) (hi : mem 0 11 < 4 → mem 0 11 = 0) : con 0 bX11_text 37 [(2, 0), (0, x)] mem (textX mem cl x) := by
  have t20 : ∀ m, x = 0 → textX mem cl x (-1) m → mmT bX11_text 37 0 0 (mQ 0 (textX mem cl x)) 20 [(2, 0), (0, x)] [] mS m := by
    intro m z w
    exact bk_X11_text_0_20 (d1 := 0) (P1 := fun _ _ => True) (fun g => by omega) (fun g => by omega) (fun _ => w) (fun g => by omega) (fun g => by omega) (s1 := hx) (s2 := fun g => by omega)
  refine cn_X11_text_0 (bk_X11_text_0_0 (d1 := 6) (d2 := 6) (P1 := bookX mem (bookS (CX mem) (SX mem) (mem 4) (mem 5) (mem 6) (cut0 mem))) (P2 := fun v m => ∃ c A W L K m1, bookS (CX mem) (SX mem) (mem 4) (mem 5) (mem 6) (cut0 mem) = .inr (c, A, W, L, K) ∧ bookX mem (.inr (c, A, W, L, K)) (-1) m1 ∧ v = (keptS (m1 7) (m1 3 5).toNat).1 ∧ tookX m1 cl m) (fun _ => c_X0_read mem hb) (fun _ v1 m1 w1 g => ?_) (fun g => ?_) (fun z v1 m1 w1 g => ?_) (fun z v1 m1 w1 g v2 m2 w2 => ?_) (s1 := hx) (s2 := fun z v1 m1 w1 => ?_))
  · obtain ⟨c, A, W, L, K, e, w⟩ := bookX_yes hb w1 g
    exact con.mono (c_X11_takeBook m1 cl (readX_of hb e w) (lawsX_rd w.2.1 hl)) (fun v m y => ⟨c, A, W, L, K, m1, e, w, y.1, y.2⟩)
  · refine bk_X11_text_0_20 (d1 := 36) (P1 := lawRX mem (lawP (CX mem) (SX mem) 200 0)) (fun _ _ => c_X3_read mem hb) (fun z z4 v1 m1 w1 g1 => ?_) (fun z => Or.inr (Or.inr ⟨g, z, rfl, rfl⟩)) (fun z z4 => Or.inr (Or.inl ⟨z, Or.inl ⟨z4, rfl, rfl⟩⟩)) (fun z z4 v1 m1 w1 g1 => ?_) (s1 := hx) (s2 := fun z z4 v1 m1 w1 => ?_)
    · obtain ⟨cl', e, w⟩ := lawRX_yes hb w1 g1
      have e0 : m1 0 = mem 0 := w.2.1.1 0 (by decide) (by decide) (by decide)
      have e8 : mset m1 1 1 0 8 2 = m1 8 2 := by rw [mset_ne (by decide)]
      have pu := c_X2_put_11 (mset m1 1 1 0) (by rw [e8]; exact w.2.2.1)
      have hi' := hi z4
      have put : ∀ m2, ((∀ a, a ≠ 11 → a ≠ 12 → m2 a = mset m1 1 1 0 a) ∧ (∀ j, j ≠ 1 → m2 11 j = mset m1 1 1 0 11 j) ∧ m2 11 1 = mset m1 1 1 0 8 2 ∧ ∀ i, 0 ≤ i → i < mset m1 1 1 0 8 2 → m2 12 i = mset m1 1 1 0 9 i) → m2 0 11 = 0 ∧ putLX m1 0 (mset m2 0 11 (m2 0 11 + 1)) := by
        rintro m2 ⟨p1, p2, p3, p4⟩
        have e11 : m2 0 11 = 0 := by rw [p1 0 (by decide) (by decide), mset_ne (by decide), e0, hi']
        rw [e8] at p3 p4
        refine ⟨e11, fun a a0 a1 a2 a3 => ?_, fun j hj => ?_, ?_, fun j hj => ?_, ?_, fun j hj => ?_, ?_, fun i i0 i1 => ?_⟩
        · rw [mset_ne a0, p1 a a2 a3, mset_ne a1]
        · rw [mset_at, if_neg hj, p1 0 (by decide) (by decide), mset_ne (by decide)]
        · rw [mset_same, e11]
          rfl
        · rw [mset_ne (by decide), p1 1 (by decide) (by decide), mset_at, if_neg hj]
        · rw [mset_ne (by decide), p1 1 (by decide) (by decide), mset_same]
        · show mset m2 0 11 _ 11 j = m1 11 j
          rw [mset_ne (by decide), p2 j hj, mset_ne (by decide)]
        · show mset m2 0 11 _ 11 1 = _
          rw [mset_ne (by decide), p3]
        · show mset m2 0 11 _ 12 i = _
          rw [mset_ne (by decide), p4 i i0 i1, mset_ne (by decide)]
      refine bk_X11_text_0_48 (d1 := 1) (oi_0 := by rw [e0]; exact hi') pu (fun m2 p => ?_) (s1 := fun m2 p => ?_)
      · have y := put m2 p
        refine Or.inr (Or.inl ⟨z, Or.inr (Or.inr ⟨z4, cl', m1, 0, e, w, hi', ?_, y.2⟩)⟩)
        rw [y.1]
        rfl
      · rw [(put m2 p).1]
        exact ⟨by decide, by decide⟩
    · obtain ⟨f, e, w⟩ := lawRX_no w1 g1
      exact Or.inr (Or.inl ⟨z, Or.inr (Or.inl ⟨z4, f, e, rfl, w⟩)⟩)
    · exact lawRX_R hb w1
  · obtain ⟨f, e, w⟩ := bookX_no w1 g
    exact t20 m1 z (Or.inl ⟨z, Or.inl ⟨f, e, rfl, w⟩⟩)
  · obtain ⟨c, A, W, L, K, m, e, w, y⟩ := w2
    exact Or.inl ⟨z, Or.inr ⟨c, A, W, L, K, m, e, w, y⟩⟩
  · exact bookX_R hb w1
theorem cn_X11_text_1 {d : Nat} {P : Int → mmM → Prop} {mem : mmM} {x1 : Int} (h : mmT bX11_text d 0 0 (mQ 0 P) 0 [(2, 0), (0, x1)] [] mS mem) : con 0 bX11_text d [(2, 0), (0, x1)] mem P := mmC_of [(2, 0), (0, x1)] ok_X11_text.2.2.2.2 rfl (Nat.le_of_ble_eq_true rfl) h
theorem bk_X11_text_1_0 {d : Nat} {d1 : Nat} {P1 : Int → mmM → Prop} {d2 : Nat} {P2 : Int → mmM → Prop} {P : Int → mmM → Prop} {mem : mmM} {x1 : Int}
  (c1 : x1 = 0 → con 0 bX0_read d1 [(2, 3)] mem P1)
  (c2 : x1 = 0 → ∀ (v1 : Int), ∀ (m1 : mmM), P1 v1 m1 → v1 = (-1) → con 0 bX11_takeBook d2 [(2, 0)] m1 P2)
  (k1 : ¬ x1 = 0 → mmT bX11_text d 0 0 (mQ 0 P) 20 [(2, 0), (0, x1)] [] mS mem)
  (k2 : x1 = 0 → ∀ (v1 : Int), ∀ (m1 : mmM), P1 v1 m1 → ¬ v1 = (-1) → mmT bX11_text d 0 0 (mQ 0 P) 20 [(2, 0), (0, x1)] [] mS m1)
  (q1 : x1 = 0 → ∀ (v1 : Int), ∀ (m1 : mmM), P1 v1 m1 → v1 = (-1) → ∀ (v2 : Int), ∀ (m2 : mmM), P2 v2 m2 → P v2 m2)
  (hd_d1 : d1 + 1 ≤ d := by omega)
  (hd_d2 : d2 + 1 ≤ d := by omega)
  (s1 : R32 x1 := by intros; first | omega | assumption | solve_by_elim)
  (s2 : x1 = 0 → ∀ (v1 : Int), ∀ (m1 : mmM), P1 v1 m1 → R32 v1 := by intros; first | omega | assumption | solve_by_elim)
  : mmT bX11_text d 0 0 (mQ 0 P) 0 [(2, 0), (0, x1)] [] mS mem := by
  refine st_iload_n (i := 1) rfl rfl dX11_text_0 ?_
  refine sr_if_ne 20 s1 (by decide) dX11_text_1 (fun h1 => ?_) (fun h1 => ?_)
  · have h1 : ¬ x1 = 0 := by omega
    exact st_locals [(2, 0), (0, x1)] ⟨Or.inr rfl, Or.inr rfl, trivial⟩ (k1 h1)
  · have h1 : x1 = 0 := by omega
    refine st_aload_n (i := 0) rfl (t := 0) rfl (by decide) dX11_text_4 ?_
    refine so_getA 0 1 fr_X11_21_10 rfl sh_0 fx_0_1 dX11_text_5 ?_
    refine st_callV (kc2 := 0) (ks2 := 0) (av := []) 3 0 mr_X11_103 ok_X0_read (c1 h1) rfl sh_3 ⟨_, rfl, rfl, by decide⟩ rfl rfl hd_d1 (Nat.le_refl 0) (Nat.le_refl 0) (Nat.le_of_ble_eq_true rfl) dX11_text_8 (mQ.elim fun v1 m1 p1 => ?_)
    refine st_iconst dX11_text_11 ?_
    refine sr_icmp_ne 20 (s2 h1 v1 m1 p1) ⟨by decide, by decide⟩ (by decide) dX11_text_12 (fun h2 => ?_) (fun h2 => ?_)
    · have h2 : ¬ v1 = (-1) := by omega
      exact st_locals [(2, 0), (0, x1)] ⟨Or.inr rfl, Or.inr rfl, trivial⟩ (k2 h1 v1 m1 p1 h2)
    · have h2 : v1 = (-1) := by omega
      refine st_aload_n (i := 0) rfl (t := 0) rfl (by decide) dX11_text_15 ?_
      refine st_callV (kc2 := 0) (ks2 := 0) (av := []) 0 10 mr_X11_108 ok_X11_takeBook (c2 h1 v1 m1 p1 h2) rfl sh_0 ⟨_, rfl, rfl, by decide⟩ rfl rfl hd_d2 (Nat.le_refl 0) (Nat.le_refl 0) (Nat.le_of_ble_eq_true rfl) dX11_text_16 (mQ.elim fun v2 m2 p2 => ?_)
      exact st_ireturn rfl dX11_text_19 (mQ.ret (q1 h1 v1 m1 p1 h2 v2 m2 p2))
theorem bk_X11_text_1_20 {d : Nat} {d1 : Nat} {P1 : Int → mmM → Prop} {P : Int → mmM → Prop} {mem : mmM} {x1 : Int}
  (c1 : x1 = 1 → (mem 0 11) < 4 → con 0 bX3_read d1 [(2, 8)] mem P1)
  (k1 : x1 = 1 → (mem 0 11) < 4 → ∀ (v1 : Int), ∀ (m1 : mmM), P1 v1 m1 → v1 = (-1) → mmT bX11_text d 0 0 (mQ 0 P) 48 [(2, 0), (9, 0)] [] mS m1)
  (q1 : ¬ x1 = 1 → P (-1) mem)
  (q2 : x1 = 1 → 4 ≤ (mem 0 11) → P (-1) mem)
  (q3 : x1 = 1 → (mem 0 11) < 4 → ∀ (v1 : Int), ∀ (m1 : mmM), P1 v1 m1 → ¬ v1 = (-1) → P (-1) m1)
  (hd_d1 : d1 + 1 ≤ d := by omega)
  (s1 : R32 x1 := by intros; first | omega | assumption | solve_by_elim)
  (s2 : x1 = 1 → (mem 0 11) < 4 → ∀ (v1 : Int), ∀ (m1 : mmM), P1 v1 m1 → R32 v1 := by intros; first | omega | assumption | solve_by_elim)
  : mmT bX11_text d 0 0 (mQ 0 P) 20 [(2, 0), (0, x1)] [] mS mem := by
  refine st_iload_n (i := 1) rfl rfl dX11_text_20 ?_
  refine st_iconst dX11_text_21 ?_
  refine sr_icmp_ne 89 s1 ⟨by decide, by decide⟩ (by decide) dX11_text_22 (fun h1 => ?_) (fun h1 => ?_)
  · have h1 : ¬ x1 = 1 := by omega
    refine st_iconst dX11_text_89 ?_
    exact st_ireturn rfl dX11_text_90 (mQ.ret (q1 h1))
  · have h1 : x1 = 1 := by omega
    refine st_aload_n (i := 0) rfl (t := 0) rfl (by decide) dX11_text_25 ?_
    refine so_getI (v := (mem 0 11)) 0 11 fr_X11_111_10 rfl sh_0 rfl dX11_text_26 (fun r1 => ?_)
    refine st_aload_n (i := 0) rfl (t := 0) rfl (by decide) dX11_text_29 ?_
    refine so_getA 0 3 fr_X11_34_10 rfl sh_0 fx_0_3 dX11_text_30 ?_
    refine so_alen (v := 4) 10 rfl sh_10 (by decide) rfl dX11_text_33 ?_
    refine sr_icmp_ge 89 r1 ⟨by decide, by decide⟩ (by decide) dX11_text_34 (fun h2 => ?_) (fun h2 => ?_)
    · have h2 : 4 ≤ (mem 0 11) := by omega
      refine st_iconst dX11_text_89 ?_
      exact st_ireturn rfl dX11_text_90 (mQ.ret (q2 h1 h2))
    · have h2 : (mem 0 11) < 4 := by omega
      refine st_aload_n (i := 0) rfl (t := 0) rfl (by decide) dX11_text_37 ?_
      refine so_getA 0 2 fr_X11_28_10 rfl sh_0 fx_0_2 dX11_text_38 ?_
      refine st_callV (kc2 := 0) (ks2 := 0) (av := []) 8 3 mr_X11_107 ok_X3_read (c1 h1 h2) rfl sh_8 ⟨_, rfl, rfl, by decide⟩ rfl rfl hd_d1 (Nat.le_refl 0) (Nat.le_refl 0) (Nat.le_of_ble_eq_true rfl) dX11_text_41 (mQ.elim fun v1 m1 p1 => ?_)
      refine st_iconst dX11_text_44 ?_
      refine sr_icmp_ne 89 (s2 h1 h2 v1 m1 p1) ⟨by decide, by decide⟩ (by decide) dX11_text_45 (fun h3 => ?_) (fun h3 => ?_)
      · have h3 : ¬ v1 = (-1) := by omega
        refine st_iconst dX11_text_89 ?_
        exact st_ireturn rfl dX11_text_90 (mQ.ret (q3 h1 h2 v1 m1 p1 h3))
      · have h3 : v1 = (-1) := by omega
        exact st_locals [(2, 0), (9, 0)] ⟨Or.inr rfl, Or.inl rfl, trivial⟩ (k1 h1 h2 v1 m1 p1 h3)
theorem bk_X11_text_1_48 {d : Nat} {d1 : Nat} {P1 : mmM → Prop} {P : Int → mmM → Prop} {mem : mmM}
  (oi_0 : (mem 0 11) = 1)
  (c1 : conv bX2_put d1 [(2, 14), (2, 8)] (mset mem 1 1 0) P1)
  (q1 : ∀ (m1 : mmM), P1 m1 → P (((m1 0 11) + 1) - 1) (mset m1 0 11 ((m1 0 11) + 1)))
  (hd_d1 : d1 + 1 ≤ d := by omega)
  (s1 : ∀ (m1 : mmM), P1 m1 → R32 ((m1 0 11) + 1) := by intros; first | omega | assumption | solve_by_elim)
  : mmT bX11_text d 0 0 (mQ 0 P) 48 [(2, 0), (9, 0)] [] mS mem := by
  refine st_aload_n (i := 0) rfl (t := 0) rfl (by decide) dX11_text_48 ?_
  refine so_getA 0 0 fr_X11_10_10 rfl sh_0 fx_0_0 dX11_text_49 ?_
  refine st_iconst dX11_text_52 ?_
  refine so_putI 1 1 fr_X11_96_9 pf_9_1 fo_1_1 rfl sh_1 ⟨by decide, by decide⟩ dX11_text_53 ?_
  refine st_aload_n (i := 0) rfl (t := 0) rfl (by decide) dX11_text_56 ?_
  refine so_getA 0 3 fr_X11_34_10 rfl sh_0 fx_0_3 dX11_text_57 ?_
  refine st_aload_n (i := 0) rfl (t := 0) rfl (by decide) dX11_text_60 ?_
  refine so_getI (v := (mem 0 11)) 0 11 fr_X11_111_10 rfl sh_0 rfl dX11_text_61 (fun r1 => ?_)
  refine so_aald (v := 14) 10 (by decide) rfl sh_10 (by decide) (by omega) (fun hfx => by rw [oi_0]; exact hfx _ fx_10_1) dX11_text_64 ?_
  refine st_aload_n (i := 0) rfl (t := 0) rfl (by decide) dX11_text_65 ?_
  refine so_getA 0 2 fr_X11_28_10 rfl sh_0 fx_0_2 dX11_text_66 ?_
  refine st_callV (kc2 := 0) (ks2 := 0) (av := [(2, 8)]) 14 2 mr_X11_114 ok_X2_put c1 rfl sh_14 ⟨_, rfl, rfl, by decide⟩ rfl rfl hd_d1 (Nat.le_refl 0) (Nat.le_refl 0) (Nat.le_of_ble_eq_true rfl) dX11_text_69 (mQv.elim fun m1 p1 => ?_)
  refine st_aload_n (i := 0) rfl (t := 0) rfl (by decide) dX11_text_72 ?_
  refine st_dup (Nat.ne_of_beq_eq_false rfl) dX11_text_73 ?_
  refine so_getI (v := (m1 0 11)) 0 11 fr_X11_111_10 rfl sh_0 rfl dX11_text_74 (fun r2 => ?_)
  refine st_iconst dX11_text_77 ?_
  refine st_iadd dX11_text_78 ?_
  refine so_putI 0 11 fr_X11_111_10 pf_10_11 fo_0_11 rfl sh_0 (s1 m1 p1) dX11_text_79 ?_
  refine st_aload_n (i := 0) rfl (t := 0) rfl (by decide) dX11_text_82 ?_
  refine so_getI (v := ((m1 0 11) + 1)) 0 11 fr_X11_111_10 rfl sh_0 rfl dX11_text_83 (fun r3 => ?_)
  refine st_iconst dX11_text_86 ?_
  refine st_isub dX11_text_87 ?_
  exact st_ireturn rfl dX11_text_88 (mQ.ret (q1 m1 p1))
theorem c_X11_text_1 (mem : mmM) (x : Int) (cl : lawT) (hx : R32 x) (hb : bytX mem) (hl : lawsX mem cl) (hk : mem 0 11 ≤ 4) (hi : mem 0 11 < 4 → mem 0 11 = 1) : con 0 bX11_text 37 [(2, 0), (0, x)] mem (textX mem cl x) := by
  have t20 : ∀ m, x = 0 → textX mem cl x (-1) m → mmT bX11_text 37 0 0 (mQ 0 (textX mem cl x)) 20 [(2, 0), (0, x)] [] mS m := by
    intro m z w
    exact bk_X11_text_1_20 (d1 := 0) (P1 := fun _ _ => True) (fun g => by omega) (fun g => by omega) (fun _ => w) (fun g => by omega) (fun g => by omega) (s1 := hx) (s2 := fun g => by omega)
  refine cn_X11_text_1 (bk_X11_text_1_0 (d1 := 6) (d2 := 6) (P1 := bookX mem (bookS (CX mem) (SX mem) (mem 4) (mem 5) (mem 6) (cut0 mem))) (P2 := fun v m => ∃ c A W L K m1, bookS (CX mem) (SX mem) (mem 4) (mem 5) (mem 6) (cut0 mem) = .inr (c, A, W, L, K) ∧ bookX mem (.inr (c, A, W, L, K)) (-1) m1 ∧ v = (keptS (m1 7) (m1 3 5).toNat).1 ∧ tookX m1 cl m) (fun _ => c_X0_read mem hb) (fun _ v1 m1 w1 g => ?_) (fun g => ?_) (fun z v1 m1 w1 g => ?_) (fun z v1 m1 w1 g v2 m2 w2 => ?_) (s1 := hx) (s2 := fun z v1 m1 w1 => ?_))
  · obtain ⟨c, A, W, L, K, e, w⟩ := bookX_yes hb w1 g
    exact con.mono (c_X11_takeBook m1 cl (readX_of hb e w) (lawsX_rd w.2.1 hl)) (fun v m y => ⟨c, A, W, L, K, m1, e, w, y.1, y.2⟩)
  · refine bk_X11_text_1_20 (d1 := 36) (P1 := lawRX mem (lawP (CX mem) (SX mem) 200 0)) (fun _ _ => c_X3_read mem hb) (fun z z4 v1 m1 w1 g1 => ?_) (fun z => Or.inr (Or.inr ⟨g, z, rfl, rfl⟩)) (fun z z4 => Or.inr (Or.inl ⟨z, Or.inl ⟨z4, rfl, rfl⟩⟩)) (fun z z4 v1 m1 w1 g1 => ?_) (s1 := hx) (s2 := fun z z4 v1 m1 w1 => ?_)
    · obtain ⟨cl', e, w⟩ := lawRX_yes hb w1 g1
      have e0 : m1 0 = mem 0 := w.2.1.1 0 (by decide) (by decide) (by decide)
      have e8 : mset m1 1 1 0 8 2 = m1 8 2 := by rw [mset_ne (by decide)]
      have pu := c_X2_put_14 (mset m1 1 1 0) (by rw [e8]; exact w.2.2.1)
      have hi' := hi z4
      have put : ∀ m2, ((∀ a, a ≠ 14 → a ≠ 15 → m2 a = mset m1 1 1 0 a) ∧ (∀ j, j ≠ 1 → m2 14 j = mset m1 1 1 0 14 j) ∧ m2 14 1 = mset m1 1 1 0 8 2 ∧ ∀ i, 0 ≤ i → i < mset m1 1 1 0 8 2 → m2 15 i = mset m1 1 1 0 9 i) → m2 0 11 = 1 ∧ putLX m1 1 (mset m2 0 11 (m2 0 11 + 1)) := by
        rintro m2 ⟨p1, p2, p3, p4⟩
        have e11 : m2 0 11 = 1 := by rw [p1 0 (by decide) (by decide), mset_ne (by decide), e0, hi']
        rw [e8] at p3 p4
        refine ⟨e11, fun a a0 a1 a2 a3 => ?_, fun j hj => ?_, ?_, fun j hj => ?_, ?_, fun j hj => ?_, ?_, fun i i0 i1 => ?_⟩
        · rw [mset_ne a0, p1 a a2 a3, mset_ne a1]
        · rw [mset_at, if_neg hj, p1 0 (by decide) (by decide), mset_ne (by decide)]
        · rw [mset_same, e11]
          rfl
        · rw [mset_ne (by decide), p1 1 (by decide) (by decide), mset_at, if_neg hj]
        · rw [mset_ne (by decide), p1 1 (by decide) (by decide), mset_same]
        · show mset m2 0 11 _ 14 j = m1 14 j
          rw [mset_ne (by decide), p2 j hj, mset_ne (by decide)]
        · show mset m2 0 11 _ 14 1 = _
          rw [mset_ne (by decide), p3]
        · show mset m2 0 11 _ 15 i = _
          rw [mset_ne (by decide), p4 i i0 i1, mset_ne (by decide)]
      refine bk_X11_text_1_48 (d1 := 1) (oi_0 := by rw [e0]; exact hi') pu (fun m2 p => ?_) (s1 := fun m2 p => ?_)
      · have y := put m2 p
        refine Or.inr (Or.inl ⟨z, Or.inr (Or.inr ⟨z4, cl', m1, 1, e, w, hi', ?_, y.2⟩)⟩)
        rw [y.1]
        rfl
      · rw [(put m2 p).1]
        exact ⟨by decide, by decide⟩
    · obtain ⟨f, e, w⟩ := lawRX_no w1 g1
      exact Or.inr (Or.inl ⟨z, Or.inr (Or.inl ⟨z4, f, e, rfl, w⟩)⟩)
    · exact lawRX_R hb w1
  · obtain ⟨f, e, w⟩ := bookX_no w1 g
    exact t20 m1 z (Or.inl ⟨z, Or.inl ⟨f, e, rfl, w⟩⟩)
  · obtain ⟨c, A, W, L, K, m, e, w, y⟩ := w2
    exact Or.inl ⟨z, Or.inr ⟨c, A, W, L, K, m, e, w, y⟩⟩
  · exact bookX_R hb w1
theorem cn_X11_text_2 {d : Nat} {P : Int → mmM → Prop} {mem : mmM} {x1 : Int} (h : mmT bX11_text d 0 0 (mQ 0 P) 0 [(2, 0), (0, x1)] [] mS mem) : con 0 bX11_text d [(2, 0), (0, x1)] mem P := mmC_of [(2, 0), (0, x1)] ok_X11_text.2.2.2.2 rfl (Nat.le_of_ble_eq_true rfl) h
theorem bk_X11_text_2_0 {d : Nat} {d1 : Nat} {P1 : Int → mmM → Prop} {d2 : Nat} {P2 : Int → mmM → Prop} {P : Int → mmM → Prop} {mem : mmM} {x1 : Int}
  (c1 : x1 = 0 → con 0 bX0_read d1 [(2, 3)] mem P1)
  (c2 : x1 = 0 → ∀ (v1 : Int), ∀ (m1 : mmM), P1 v1 m1 → v1 = (-1) → con 0 bX11_takeBook d2 [(2, 0)] m1 P2)
  (k1 : ¬ x1 = 0 → mmT bX11_text d 0 0 (mQ 0 P) 20 [(2, 0), (0, x1)] [] mS mem)
  (k2 : x1 = 0 → ∀ (v1 : Int), ∀ (m1 : mmM), P1 v1 m1 → ¬ v1 = (-1) → mmT bX11_text d 0 0 (mQ 0 P) 20 [(2, 0), (0, x1)] [] mS m1)
  (q1 : x1 = 0 → ∀ (v1 : Int), ∀ (m1 : mmM), P1 v1 m1 → v1 = (-1) → ∀ (v2 : Int), ∀ (m2 : mmM), P2 v2 m2 → P v2 m2)
  (hd_d1 : d1 + 1 ≤ d := by omega)
  (hd_d2 : d2 + 1 ≤ d := by omega)
  (s1 : R32 x1 := by intros; first | omega | assumption | solve_by_elim)
  (s2 : x1 = 0 → ∀ (v1 : Int), ∀ (m1 : mmM), P1 v1 m1 → R32 v1 := by intros; first | omega | assumption | solve_by_elim)
  : mmT bX11_text d 0 0 (mQ 0 P) 0 [(2, 0), (0, x1)] [] mS mem := by
  refine st_iload_n (i := 1) rfl rfl dX11_text_0 ?_
  refine sr_if_ne 20 s1 (by decide) dX11_text_1 (fun h1 => ?_) (fun h1 => ?_)
  · have h1 : ¬ x1 = 0 := by omega
    exact st_locals [(2, 0), (0, x1)] ⟨Or.inr rfl, Or.inr rfl, trivial⟩ (k1 h1)
  · have h1 : x1 = 0 := by omega
    refine st_aload_n (i := 0) rfl (t := 0) rfl (by decide) dX11_text_4 ?_
    refine so_getA 0 1 fr_X11_21_10 rfl sh_0 fx_0_1 dX11_text_5 ?_
    refine st_callV (kc2 := 0) (ks2 := 0) (av := []) 3 0 mr_X11_103 ok_X0_read (c1 h1) rfl sh_3 ⟨_, rfl, rfl, by decide⟩ rfl rfl hd_d1 (Nat.le_refl 0) (Nat.le_refl 0) (Nat.le_of_ble_eq_true rfl) dX11_text_8 (mQ.elim fun v1 m1 p1 => ?_)
    refine st_iconst dX11_text_11 ?_
    refine sr_icmp_ne 20 (s2 h1 v1 m1 p1) ⟨by decide, by decide⟩ (by decide) dX11_text_12 (fun h2 => ?_) (fun h2 => ?_)
    · have h2 : ¬ v1 = (-1) := by omega
      exact st_locals [(2, 0), (0, x1)] ⟨Or.inr rfl, Or.inr rfl, trivial⟩ (k2 h1 v1 m1 p1 h2)
    · have h2 : v1 = (-1) := by omega
      refine st_aload_n (i := 0) rfl (t := 0) rfl (by decide) dX11_text_15 ?_
      refine st_callV (kc2 := 0) (ks2 := 0) (av := []) 0 10 mr_X11_108 ok_X11_takeBook (c2 h1 v1 m1 p1 h2) rfl sh_0 ⟨_, rfl, rfl, by decide⟩ rfl rfl hd_d2 (Nat.le_refl 0) (Nat.le_refl 0) (Nat.le_of_ble_eq_true rfl) dX11_text_16 (mQ.elim fun v2 m2 p2 => ?_)
      exact st_ireturn rfl dX11_text_19 (mQ.ret (q1 h1 v1 m1 p1 h2 v2 m2 p2))
theorem bk_X11_text_2_20 {d : Nat} {d1 : Nat} {P1 : Int → mmM → Prop} {P : Int → mmM → Prop} {mem : mmM} {x1 : Int}
  (c1 : x1 = 1 → (mem 0 11) < 4 → con 0 bX3_read d1 [(2, 8)] mem P1)
  (k1 : x1 = 1 → (mem 0 11) < 4 → ∀ (v1 : Int), ∀ (m1 : mmM), P1 v1 m1 → v1 = (-1) → mmT bX11_text d 0 0 (mQ 0 P) 48 [(2, 0), (9, 0)] [] mS m1)
  (q1 : ¬ x1 = 1 → P (-1) mem)
  (q2 : x1 = 1 → 4 ≤ (mem 0 11) → P (-1) mem)
  (q3 : x1 = 1 → (mem 0 11) < 4 → ∀ (v1 : Int), ∀ (m1 : mmM), P1 v1 m1 → ¬ v1 = (-1) → P (-1) m1)
  (hd_d1 : d1 + 1 ≤ d := by omega)
  (s1 : R32 x1 := by intros; first | omega | assumption | solve_by_elim)
  (s2 : x1 = 1 → (mem 0 11) < 4 → ∀ (v1 : Int), ∀ (m1 : mmM), P1 v1 m1 → R32 v1 := by intros; first | omega | assumption | solve_by_elim)
  : mmT bX11_text d 0 0 (mQ 0 P) 20 [(2, 0), (0, x1)] [] mS mem := by
  refine st_iload_n (i := 1) rfl rfl dX11_text_20 ?_
  refine st_iconst dX11_text_21 ?_
  refine sr_icmp_ne 89 s1 ⟨by decide, by decide⟩ (by decide) dX11_text_22 (fun h1 => ?_) (fun h1 => ?_)
  · have h1 : ¬ x1 = 1 := by omega
    refine st_iconst dX11_text_89 ?_
    exact st_ireturn rfl dX11_text_90 (mQ.ret (q1 h1))
  · have h1 : x1 = 1 := by omega
    refine st_aload_n (i := 0) rfl (t := 0) rfl (by decide) dX11_text_25 ?_
    refine so_getI (v := (mem 0 11)) 0 11 fr_X11_111_10 rfl sh_0 rfl dX11_text_26 (fun r1 => ?_)
    refine st_aload_n (i := 0) rfl (t := 0) rfl (by decide) dX11_text_29 ?_
    refine so_getA 0 3 fr_X11_34_10 rfl sh_0 fx_0_3 dX11_text_30 ?_
    refine so_alen (v := 4) 10 rfl sh_10 (by decide) rfl dX11_text_33 ?_
    refine sr_icmp_ge 89 r1 ⟨by decide, by decide⟩ (by decide) dX11_text_34 (fun h2 => ?_) (fun h2 => ?_)
    · have h2 : 4 ≤ (mem 0 11) := by omega
      refine st_iconst dX11_text_89 ?_
      exact st_ireturn rfl dX11_text_90 (mQ.ret (q2 h1 h2))
    · have h2 : (mem 0 11) < 4 := by omega
      refine st_aload_n (i := 0) rfl (t := 0) rfl (by decide) dX11_text_37 ?_
      refine so_getA 0 2 fr_X11_28_10 rfl sh_0 fx_0_2 dX11_text_38 ?_
      refine st_callV (kc2 := 0) (ks2 := 0) (av := []) 8 3 mr_X11_107 ok_X3_read (c1 h1 h2) rfl sh_8 ⟨_, rfl, rfl, by decide⟩ rfl rfl hd_d1 (Nat.le_refl 0) (Nat.le_refl 0) (Nat.le_of_ble_eq_true rfl) dX11_text_41 (mQ.elim fun v1 m1 p1 => ?_)
      refine st_iconst dX11_text_44 ?_
      refine sr_icmp_ne 89 (s2 h1 h2 v1 m1 p1) ⟨by decide, by decide⟩ (by decide) dX11_text_45 (fun h3 => ?_) (fun h3 => ?_)
      · have h3 : ¬ v1 = (-1) := by omega
        refine st_iconst dX11_text_89 ?_
        exact st_ireturn rfl dX11_text_90 (mQ.ret (q3 h1 h2 v1 m1 p1 h3))
      · have h3 : v1 = (-1) := by omega
        exact st_locals [(2, 0), (9, 0)] ⟨Or.inr rfl, Or.inl rfl, trivial⟩ (k1 h1 h2 v1 m1 p1 h3)
theorem bk_X11_text_2_48 {d : Nat} {d1 : Nat} {P1 : mmM → Prop} {P : Int → mmM → Prop} {mem : mmM}
  (oi_0 : (mem 0 11) = 2)
  (c1 : conv bX2_put d1 [(2, 17), (2, 8)] (mset mem 1 1 0) P1)
  (q1 : ∀ (m1 : mmM), P1 m1 → P (((m1 0 11) + 1) - 1) (mset m1 0 11 ((m1 0 11) + 1)))
  (hd_d1 : d1 + 1 ≤ d := by omega)
  (s1 : ∀ (m1 : mmM), P1 m1 → R32 ((m1 0 11) + 1) := by intros; first | omega | assumption | solve_by_elim)
  : mmT bX11_text d 0 0 (mQ 0 P) 48 [(2, 0), (9, 0)] [] mS mem := by
  refine st_aload_n (i := 0) rfl (t := 0) rfl (by decide) dX11_text_48 ?_
  refine so_getA 0 0 fr_X11_10_10 rfl sh_0 fx_0_0 dX11_text_49 ?_
  refine st_iconst dX11_text_52 ?_
  refine so_putI 1 1 fr_X11_96_9 pf_9_1 fo_1_1 rfl sh_1 ⟨by decide, by decide⟩ dX11_text_53 ?_
  refine st_aload_n (i := 0) rfl (t := 0) rfl (by decide) dX11_text_56 ?_
  refine so_getA 0 3 fr_X11_34_10 rfl sh_0 fx_0_3 dX11_text_57 ?_
  refine st_aload_n (i := 0) rfl (t := 0) rfl (by decide) dX11_text_60 ?_
  refine so_getI (v := (mem 0 11)) 0 11 fr_X11_111_10 rfl sh_0 rfl dX11_text_61 (fun r1 => ?_)
  refine so_aald (v := 17) 10 (by decide) rfl sh_10 (by decide) (by omega) (fun hfx => by rw [oi_0]; exact hfx _ fx_10_2) dX11_text_64 ?_
  refine st_aload_n (i := 0) rfl (t := 0) rfl (by decide) dX11_text_65 ?_
  refine so_getA 0 2 fr_X11_28_10 rfl sh_0 fx_0_2 dX11_text_66 ?_
  refine st_callV (kc2 := 0) (ks2 := 0) (av := [(2, 8)]) 17 2 mr_X11_114 ok_X2_put c1 rfl sh_17 ⟨_, rfl, rfl, by decide⟩ rfl rfl hd_d1 (Nat.le_refl 0) (Nat.le_refl 0) (Nat.le_of_ble_eq_true rfl) dX11_text_69 (mQv.elim fun m1 p1 => ?_)
  refine st_aload_n (i := 0) rfl (t := 0) rfl (by decide) dX11_text_72 ?_
  refine st_dup (Nat.ne_of_beq_eq_false rfl) dX11_text_73 ?_
  refine so_getI (v := (m1 0 11)) 0 11 fr_X11_111_10 rfl sh_0 rfl dX11_text_74 (fun r2 => ?_)
  refine st_iconst dX11_text_77 ?_
  refine st_iadd dX11_text_78 ?_
  refine so_putI 0 11 fr_X11_111_10 pf_10_11 fo_0_11 rfl sh_0 (s1 m1 p1) dX11_text_79 ?_
  refine st_aload_n (i := 0) rfl (t := 0) rfl (by decide) dX11_text_82 ?_
  refine so_getI (v := ((m1 0 11) + 1)) 0 11 fr_X11_111_10 rfl sh_0 rfl dX11_text_83 (fun r3 => ?_)
  refine st_iconst dX11_text_86 ?_
  refine st_isub dX11_text_87 ?_
  exact st_ireturn rfl dX11_text_88 (mQ.ret (q1 m1 p1))
theorem c_X11_text_2 (mem : mmM) (x : Int) (cl : lawT) (hx : R32 x) (hb : bytX mem) (hl : lawsX mem cl) (hk : mem 0 11 ≤ 4) (hi : mem 0 11 < 4 → mem 0 11 = 2) : con 0 bX11_text 37 [(2, 0), (0, x)] mem (textX mem cl x) := by
  have t20 : ∀ m, x = 0 → textX mem cl x (-1) m → mmT bX11_text 37 0 0 (mQ 0 (textX mem cl x)) 20 [(2, 0), (0, x)] [] mS m := by
    intro m z w
    exact bk_X11_text_2_20 (d1 := 0) (P1 := fun _ _ => True) (fun g => by omega) (fun g => by omega) (fun _ => w) (fun g => by omega) (fun g => by omega) (s1 := hx) (s2 := fun g => by omega)
  refine cn_X11_text_2 (bk_X11_text_2_0 (d1 := 6) (d2 := 6) (P1 := bookX mem (bookS (CX mem) (SX mem) (mem 4) (mem 5) (mem 6) (cut0 mem))) (P2 := fun v m => ∃ c A W L K m1, bookS (CX mem) (SX mem) (mem 4) (mem 5) (mem 6) (cut0 mem) = .inr (c, A, W, L, K) ∧ bookX mem (.inr (c, A, W, L, K)) (-1) m1 ∧ v = (keptS (m1 7) (m1 3 5).toNat).1 ∧ tookX m1 cl m) (fun _ => c_X0_read mem hb) (fun _ v1 m1 w1 g => ?_) (fun g => ?_) (fun z v1 m1 w1 g => ?_) (fun z v1 m1 w1 g v2 m2 w2 => ?_) (s1 := hx) (s2 := fun z v1 m1 w1 => ?_))
  · obtain ⟨c, A, W, L, K, e, w⟩ := bookX_yes hb w1 g
    exact con.mono (c_X11_takeBook m1 cl (readX_of hb e w) (lawsX_rd w.2.1 hl)) (fun v m y => ⟨c, A, W, L, K, m1, e, w, y.1, y.2⟩)
  · refine bk_X11_text_2_20 (d1 := 36) (P1 := lawRX mem (lawP (CX mem) (SX mem) 200 0)) (fun _ _ => c_X3_read mem hb) (fun z z4 v1 m1 w1 g1 => ?_) (fun z => Or.inr (Or.inr ⟨g, z, rfl, rfl⟩)) (fun z z4 => Or.inr (Or.inl ⟨z, Or.inl ⟨z4, rfl, rfl⟩⟩)) (fun z z4 v1 m1 w1 g1 => ?_) (s1 := hx) (s2 := fun z z4 v1 m1 w1 => ?_)
    · obtain ⟨cl', e, w⟩ := lawRX_yes hb w1 g1
      have e0 : m1 0 = mem 0 := w.2.1.1 0 (by decide) (by decide) (by decide)
      have e8 : mset m1 1 1 0 8 2 = m1 8 2 := by rw [mset_ne (by decide)]
      have pu := c_X2_put_17 (mset m1 1 1 0) (by rw [e8]; exact w.2.2.1)
      have hi' := hi z4
      have put : ∀ m2, ((∀ a, a ≠ 17 → a ≠ 18 → m2 a = mset m1 1 1 0 a) ∧ (∀ j, j ≠ 1 → m2 17 j = mset m1 1 1 0 17 j) ∧ m2 17 1 = mset m1 1 1 0 8 2 ∧ ∀ i, 0 ≤ i → i < mset m1 1 1 0 8 2 → m2 18 i = mset m1 1 1 0 9 i) → m2 0 11 = 2 ∧ putLX m1 2 (mset m2 0 11 (m2 0 11 + 1)) := by
        rintro m2 ⟨p1, p2, p3, p4⟩
        have e11 : m2 0 11 = 2 := by rw [p1 0 (by decide) (by decide), mset_ne (by decide), e0, hi']
        rw [e8] at p3 p4
        refine ⟨e11, fun a a0 a1 a2 a3 => ?_, fun j hj => ?_, ?_, fun j hj => ?_, ?_, fun j hj => ?_, ?_, fun i i0 i1 => ?_⟩
        · rw [mset_ne a0, p1 a a2 a3, mset_ne a1]
        · rw [mset_at, if_neg hj, p1 0 (by decide) (by decide), mset_ne (by decide)]
        · rw [mset_same, e11]
          rfl
        · rw [mset_ne (by decide), p1 1 (by decide) (by decide), mset_at, if_neg hj]
        · rw [mset_ne (by decide), p1 1 (by decide) (by decide), mset_same]
        · show mset m2 0 11 _ 17 j = m1 17 j
          rw [mset_ne (by decide), p2 j hj, mset_ne (by decide)]
        · show mset m2 0 11 _ 17 1 = _
          rw [mset_ne (by decide), p3]
        · show mset m2 0 11 _ 18 i = _
          rw [mset_ne (by decide), p4 i i0 i1, mset_ne (by decide)]
      refine bk_X11_text_2_48 (d1 := 1) (oi_0 := by rw [e0]; exact hi') pu (fun m2 p => ?_) (s1 := fun m2 p => ?_)
      · have y := put m2 p
        refine Or.inr (Or.inl ⟨z, Or.inr (Or.inr ⟨z4, cl', m1, 2, e, w, hi', ?_, y.2⟩)⟩)
        rw [y.1]
        rfl
      · rw [(put m2 p).1]
        exact ⟨by decide, by decide⟩
    · obtain ⟨f, e, w⟩ := lawRX_no w1 g1
      exact Or.inr (Or.inl ⟨z, Or.inr (Or.inl ⟨z4, f, e, rfl, w⟩)⟩)
    · exact lawRX_R hb w1
  · obtain ⟨f, e, w⟩ := bookX_no w1 g
    exact t20 m1 z (Or.inl ⟨z, Or.inl ⟨f, e, rfl, w⟩⟩)
  · obtain ⟨c, A, W, L, K, m, e, w, y⟩ := w2
    exact Or.inl ⟨z, Or.inr ⟨c, A, W, L, K, m, e, w, y⟩⟩
  · exact bookX_R hb w1
theorem cn_X11_text_3 {d : Nat} {P : Int → mmM → Prop} {mem : mmM} {x1 : Int} (h : mmT bX11_text d 0 0 (mQ 0 P) 0 [(2, 0), (0, x1)] [] mS mem) : con 0 bX11_text d [(2, 0), (0, x1)] mem P := mmC_of [(2, 0), (0, x1)] ok_X11_text.2.2.2.2 rfl (Nat.le_of_ble_eq_true rfl) h
theorem bk_X11_text_3_0 {d : Nat} {d1 : Nat} {P1 : Int → mmM → Prop} {d2 : Nat} {P2 : Int → mmM → Prop} {P : Int → mmM → Prop} {mem : mmM} {x1 : Int}
  (c1 : x1 = 0 → con 0 bX0_read d1 [(2, 3)] mem P1)
  (c2 : x1 = 0 → ∀ (v1 : Int), ∀ (m1 : mmM), P1 v1 m1 → v1 = (-1) → con 0 bX11_takeBook d2 [(2, 0)] m1 P2)
  (k1 : ¬ x1 = 0 → mmT bX11_text d 0 0 (mQ 0 P) 20 [(2, 0), (0, x1)] [] mS mem)
  (k2 : x1 = 0 → ∀ (v1 : Int), ∀ (m1 : mmM), P1 v1 m1 → ¬ v1 = (-1) → mmT bX11_text d 0 0 (mQ 0 P) 20 [(2, 0), (0, x1)] [] mS m1)
  (q1 : x1 = 0 → ∀ (v1 : Int), ∀ (m1 : mmM), P1 v1 m1 → v1 = (-1) → ∀ (v2 : Int), ∀ (m2 : mmM), P2 v2 m2 → P v2 m2)
  (hd_d1 : d1 + 1 ≤ d := by omega)
  (hd_d2 : d2 + 1 ≤ d := by omega)
  (s1 : R32 x1 := by intros; first | omega | assumption | solve_by_elim)
  (s2 : x1 = 0 → ∀ (v1 : Int), ∀ (m1 : mmM), P1 v1 m1 → R32 v1 := by intros; first | omega | assumption | solve_by_elim)
  : mmT bX11_text d 0 0 (mQ 0 P) 0 [(2, 0), (0, x1)] [] mS mem := by
  refine st_iload_n (i := 1) rfl rfl dX11_text_0 ?_
  refine sr_if_ne 20 s1 (by decide) dX11_text_1 (fun h1 => ?_) (fun h1 => ?_)
  · have h1 : ¬ x1 = 0 := by omega
    exact st_locals [(2, 0), (0, x1)] ⟨Or.inr rfl, Or.inr rfl, trivial⟩ (k1 h1)
  · have h1 : x1 = 0 := by omega
    refine st_aload_n (i := 0) rfl (t := 0) rfl (by decide) dX11_text_4 ?_
    refine so_getA 0 1 fr_X11_21_10 rfl sh_0 fx_0_1 dX11_text_5 ?_
    refine st_callV (kc2 := 0) (ks2 := 0) (av := []) 3 0 mr_X11_103 ok_X0_read (c1 h1) rfl sh_3 ⟨_, rfl, rfl, by decide⟩ rfl rfl hd_d1 (Nat.le_refl 0) (Nat.le_refl 0) (Nat.le_of_ble_eq_true rfl) dX11_text_8 (mQ.elim fun v1 m1 p1 => ?_)
    refine st_iconst dX11_text_11 ?_
    refine sr_icmp_ne 20 (s2 h1 v1 m1 p1) ⟨by decide, by decide⟩ (by decide) dX11_text_12 (fun h2 => ?_) (fun h2 => ?_)
    · have h2 : ¬ v1 = (-1) := by omega
      exact st_locals [(2, 0), (0, x1)] ⟨Or.inr rfl, Or.inr rfl, trivial⟩ (k2 h1 v1 m1 p1 h2)
    · have h2 : v1 = (-1) := by omega
      refine st_aload_n (i := 0) rfl (t := 0) rfl (by decide) dX11_text_15 ?_
      refine st_callV (kc2 := 0) (ks2 := 0) (av := []) 0 10 mr_X11_108 ok_X11_takeBook (c2 h1 v1 m1 p1 h2) rfl sh_0 ⟨_, rfl, rfl, by decide⟩ rfl rfl hd_d2 (Nat.le_refl 0) (Nat.le_refl 0) (Nat.le_of_ble_eq_true rfl) dX11_text_16 (mQ.elim fun v2 m2 p2 => ?_)
      exact st_ireturn rfl dX11_text_19 (mQ.ret (q1 h1 v1 m1 p1 h2 v2 m2 p2))
theorem bk_X11_text_3_20 {d : Nat} {d1 : Nat} {P1 : Int → mmM → Prop} {P : Int → mmM → Prop} {mem : mmM} {x1 : Int}
  (c1 : x1 = 1 → (mem 0 11) < 4 → con 0 bX3_read d1 [(2, 8)] mem P1)
  (k1 : x1 = 1 → (mem 0 11) < 4 → ∀ (v1 : Int), ∀ (m1 : mmM), P1 v1 m1 → v1 = (-1) → mmT bX11_text d 0 0 (mQ 0 P) 48 [(2, 0), (9, 0)] [] mS m1)
  (q1 : ¬ x1 = 1 → P (-1) mem)
  (q2 : x1 = 1 → 4 ≤ (mem 0 11) → P (-1) mem)
  (q3 : x1 = 1 → (mem 0 11) < 4 → ∀ (v1 : Int), ∀ (m1 : mmM), P1 v1 m1 → ¬ v1 = (-1) → P (-1) m1)
  (hd_d1 : d1 + 1 ≤ d := by omega)
  (s1 : R32 x1 := by intros; first | omega | assumption | solve_by_elim)
  (s2 : x1 = 1 → (mem 0 11) < 4 → ∀ (v1 : Int), ∀ (m1 : mmM), P1 v1 m1 → R32 v1 := by intros; first | omega | assumption | solve_by_elim)
  : mmT bX11_text d 0 0 (mQ 0 P) 20 [(2, 0), (0, x1)] [] mS mem := by
  refine st_iload_n (i := 1) rfl rfl dX11_text_20 ?_
  refine st_iconst dX11_text_21 ?_
  refine sr_icmp_ne 89 s1 ⟨by decide, by decide⟩ (by decide) dX11_text_22 (fun h1 => ?_) (fun h1 => ?_)
  · have h1 : ¬ x1 = 1 := by omega
    refine st_iconst dX11_text_89 ?_
    exact st_ireturn rfl dX11_text_90 (mQ.ret (q1 h1))
  · have h1 : x1 = 1 := by omega
    refine st_aload_n (i := 0) rfl (t := 0) rfl (by decide) dX11_text_25 ?_
    refine so_getI (v := (mem 0 11)) 0 11 fr_X11_111_10 rfl sh_0 rfl dX11_text_26 (fun r1 => ?_)
    refine st_aload_n (i := 0) rfl (t := 0) rfl (by decide) dX11_text_29 ?_
    refine so_getA 0 3 fr_X11_34_10 rfl sh_0 fx_0_3 dX11_text_30 ?_
    refine so_alen (v := 4) 10 rfl sh_10 (by decide) rfl dX11_text_33 ?_
    refine sr_icmp_ge 89 r1 ⟨by decide, by decide⟩ (by decide) dX11_text_34 (fun h2 => ?_) (fun h2 => ?_)
    · have h2 : 4 ≤ (mem 0 11) := by omega
      refine st_iconst dX11_text_89 ?_
      exact st_ireturn rfl dX11_text_90 (mQ.ret (q2 h1 h2))
    · have h2 : (mem 0 11) < 4 := by omega
      refine st_aload_n (i := 0) rfl (t := 0) rfl (by decide) dX11_text_37 ?_
      refine so_getA 0 2 fr_X11_28_10 rfl sh_0 fx_0_2 dX11_text_38 ?_
      refine st_callV (kc2 := 0) (ks2 := 0) (av := []) 8 3 mr_X11_107 ok_X3_read (c1 h1 h2) rfl sh_8 ⟨_, rfl, rfl, by decide⟩ rfl rfl hd_d1 (Nat.le_refl 0) (Nat.le_refl 0) (Nat.le_of_ble_eq_true rfl) dX11_text_41 (mQ.elim fun v1 m1 p1 => ?_)
      refine st_iconst dX11_text_44 ?_
      refine sr_icmp_ne 89 (s2 h1 h2 v1 m1 p1) ⟨by decide, by decide⟩ (by decide) dX11_text_45 (fun h3 => ?_) (fun h3 => ?_)
      · have h3 : ¬ v1 = (-1) := by omega
        refine st_iconst dX11_text_89 ?_
        exact st_ireturn rfl dX11_text_90 (mQ.ret (q3 h1 h2 v1 m1 p1 h3))
      · have h3 : v1 = (-1) := by omega
        exact st_locals [(2, 0), (9, 0)] ⟨Or.inr rfl, Or.inl rfl, trivial⟩ (k1 h1 h2 v1 m1 p1 h3)
theorem bk_X11_text_3_48 {d : Nat} {d1 : Nat} {P1 : mmM → Prop} {P : Int → mmM → Prop} {mem : mmM}
  (oi_0 : (mem 0 11) = 3)
  (c1 : conv bX2_put d1 [(2, 20), (2, 8)] (mset mem 1 1 0) P1)
  (q1 : ∀ (m1 : mmM), P1 m1 → P (((m1 0 11) + 1) - 1) (mset m1 0 11 ((m1 0 11) + 1)))
  (hd_d1 : d1 + 1 ≤ d := by omega)
  (s1 : ∀ (m1 : mmM), P1 m1 → R32 ((m1 0 11) + 1) := by intros; first | omega | assumption | solve_by_elim)
  : mmT bX11_text d 0 0 (mQ 0 P) 48 [(2, 0), (9, 0)] [] mS mem := by
  refine st_aload_n (i := 0) rfl (t := 0) rfl (by decide) dX11_text_48 ?_
  refine so_getA 0 0 fr_X11_10_10 rfl sh_0 fx_0_0 dX11_text_49 ?_
  refine st_iconst dX11_text_52 ?_
  refine so_putI 1 1 fr_X11_96_9 pf_9_1 fo_1_1 rfl sh_1 ⟨by decide, by decide⟩ dX11_text_53 ?_
  refine st_aload_n (i := 0) rfl (t := 0) rfl (by decide) dX11_text_56 ?_
  refine so_getA 0 3 fr_X11_34_10 rfl sh_0 fx_0_3 dX11_text_57 ?_
  refine st_aload_n (i := 0) rfl (t := 0) rfl (by decide) dX11_text_60 ?_
  refine so_getI (v := (mem 0 11)) 0 11 fr_X11_111_10 rfl sh_0 rfl dX11_text_61 (fun r1 => ?_)
  refine so_aald (v := 20) 10 (by decide) rfl sh_10 (by decide) (by omega) (fun hfx => by rw [oi_0]; exact hfx _ fx_10_3) dX11_text_64 ?_
  refine st_aload_n (i := 0) rfl (t := 0) rfl (by decide) dX11_text_65 ?_
  refine so_getA 0 2 fr_X11_28_10 rfl sh_0 fx_0_2 dX11_text_66 ?_
  refine st_callV (kc2 := 0) (ks2 := 0) (av := [(2, 8)]) 20 2 mr_X11_114 ok_X2_put c1 rfl sh_20 ⟨_, rfl, rfl, by decide⟩ rfl rfl hd_d1 (Nat.le_refl 0) (Nat.le_refl 0) (Nat.le_of_ble_eq_true rfl) dX11_text_69 (mQv.elim fun m1 p1 => ?_)
  refine st_aload_n (i := 0) rfl (t := 0) rfl (by decide) dX11_text_72 ?_
  refine st_dup (Nat.ne_of_beq_eq_false rfl) dX11_text_73 ?_
  refine so_getI (v := (m1 0 11)) 0 11 fr_X11_111_10 rfl sh_0 rfl dX11_text_74 (fun r2 => ?_)
  refine st_iconst dX11_text_77 ?_
  refine st_iadd dX11_text_78 ?_
  refine so_putI 0 11 fr_X11_111_10 pf_10_11 fo_0_11 rfl sh_0 (s1 m1 p1) dX11_text_79 ?_
  refine st_aload_n (i := 0) rfl (t := 0) rfl (by decide) dX11_text_82 ?_
  refine so_getI (v := ((m1 0 11) + 1)) 0 11 fr_X11_111_10 rfl sh_0 rfl dX11_text_83 (fun r3 => ?_)
  refine st_iconst dX11_text_86 ?_
  refine st_isub dX11_text_87 ?_
  exact st_ireturn rfl dX11_text_88 (mQ.ret (q1 m1 p1))
theorem c_X11_text_3 (mem : mmM) (x : Int) (cl : lawT) (hx : R32 x) (hb : bytX mem) (hl : lawsX mem cl) (hk : mem 0 11 ≤ 4) (hi : mem 0 11 < 4 → mem 0 11 = 3) : con 0 bX11_text 37 [(2, 0), (0, x)] mem (textX mem cl x) := by
  have t20 : ∀ m, x = 0 → textX mem cl x (-1) m → mmT bX11_text 37 0 0 (mQ 0 (textX mem cl x)) 20 [(2, 0), (0, x)] [] mS m := by
    intro m z w
    exact bk_X11_text_3_20 (d1 := 0) (P1 := fun _ _ => True) (fun g => by omega) (fun g => by omega) (fun _ => w) (fun g => by omega) (fun g => by omega) (s1 := hx) (s2 := fun g => by omega)
  refine cn_X11_text_3 (bk_X11_text_3_0 (d1 := 6) (d2 := 6) (P1 := bookX mem (bookS (CX mem) (SX mem) (mem 4) (mem 5) (mem 6) (cut0 mem))) (P2 := fun v m => ∃ c A W L K m1, bookS (CX mem) (SX mem) (mem 4) (mem 5) (mem 6) (cut0 mem) = .inr (c, A, W, L, K) ∧ bookX mem (.inr (c, A, W, L, K)) (-1) m1 ∧ v = (keptS (m1 7) (m1 3 5).toNat).1 ∧ tookX m1 cl m) (fun _ => c_X0_read mem hb) (fun _ v1 m1 w1 g => ?_) (fun g => ?_) (fun z v1 m1 w1 g => ?_) (fun z v1 m1 w1 g v2 m2 w2 => ?_) (s1 := hx) (s2 := fun z v1 m1 w1 => ?_))
  · obtain ⟨c, A, W, L, K, e, w⟩ := bookX_yes hb w1 g
    exact con.mono (c_X11_takeBook m1 cl (readX_of hb e w) (lawsX_rd w.2.1 hl)) (fun v m y => ⟨c, A, W, L, K, m1, e, w, y.1, y.2⟩)
  · refine bk_X11_text_3_20 (d1 := 36) (P1 := lawRX mem (lawP (CX mem) (SX mem) 200 0)) (fun _ _ => c_X3_read mem hb) (fun z z4 v1 m1 w1 g1 => ?_) (fun z => Or.inr (Or.inr ⟨g, z, rfl, rfl⟩)) (fun z z4 => Or.inr (Or.inl ⟨z, Or.inl ⟨z4, rfl, rfl⟩⟩)) (fun z z4 v1 m1 w1 g1 => ?_) (s1 := hx) (s2 := fun z z4 v1 m1 w1 => ?_)
    · obtain ⟨cl', e, w⟩ := lawRX_yes hb w1 g1
      have e0 : m1 0 = mem 0 := w.2.1.1 0 (by decide) (by decide) (by decide)
      have e8 : mset m1 1 1 0 8 2 = m1 8 2 := by rw [mset_ne (by decide)]
      have pu := c_X2_put_20 (mset m1 1 1 0) (by rw [e8]; exact w.2.2.1)
      have hi' := hi z4
      have put : ∀ m2, ((∀ a, a ≠ 20 → a ≠ 21 → m2 a = mset m1 1 1 0 a) ∧ (∀ j, j ≠ 1 → m2 20 j = mset m1 1 1 0 20 j) ∧ m2 20 1 = mset m1 1 1 0 8 2 ∧ ∀ i, 0 ≤ i → i < mset m1 1 1 0 8 2 → m2 21 i = mset m1 1 1 0 9 i) → m2 0 11 = 3 ∧ putLX m1 3 (mset m2 0 11 (m2 0 11 + 1)) := by
        rintro m2 ⟨p1, p2, p3, p4⟩
        have e11 : m2 0 11 = 3 := by rw [p1 0 (by decide) (by decide), mset_ne (by decide), e0, hi']
        rw [e8] at p3 p4
        refine ⟨e11, fun a a0 a1 a2 a3 => ?_, fun j hj => ?_, ?_, fun j hj => ?_, ?_, fun j hj => ?_, ?_, fun i i0 i1 => ?_⟩
        · rw [mset_ne a0, p1 a a2 a3, mset_ne a1]
        · rw [mset_at, if_neg hj, p1 0 (by decide) (by decide), mset_ne (by decide)]
        · rw [mset_same, e11]
          rfl
        · rw [mset_ne (by decide), p1 1 (by decide) (by decide), mset_at, if_neg hj]
        · rw [mset_ne (by decide), p1 1 (by decide) (by decide), mset_same]
        · show mset m2 0 11 _ 20 j = m1 20 j
          rw [mset_ne (by decide), p2 j hj, mset_ne (by decide)]
        · show mset m2 0 11 _ 20 1 = _
          rw [mset_ne (by decide), p3]
        · show mset m2 0 11 _ 21 i = _
          rw [mset_ne (by decide), p4 i i0 i1, mset_ne (by decide)]
      refine bk_X11_text_3_48 (d1 := 1) (oi_0 := by rw [e0]; exact hi') pu (fun m2 p => ?_) (s1 := fun m2 p => ?_)
      · have y := put m2 p
        refine Or.inr (Or.inl ⟨z, Or.inr (Or.inr ⟨z4, cl', m1, 3, e, w, hi', ?_, y.2⟩)⟩)
        rw [y.1]
        rfl
      · rw [(put m2 p).1]
        exact ⟨by decide, by decide⟩
    · obtain ⟨f, e, w⟩ := lawRX_no w1 g1
      exact Or.inr (Or.inl ⟨z, Or.inr (Or.inl ⟨z4, f, e, rfl, w⟩)⟩)
    · exact lawRX_R hb w1
  · obtain ⟨f, e, w⟩ := bookX_no w1 g
    exact t20 m1 z (Or.inl ⟨z, Or.inl ⟨f, e, rfl, w⟩⟩)
  · obtain ⟨c, A, W, L, K, m, e, w, y⟩ := w2
    exact Or.inl ⟨z, Or.inr ⟨c, A, W, L, K, m, e, w, y⟩⟩
  · exact bookX_R hb w1
theorem c_X11_text (mem : mmM) (x : Int) (cl : lawT) (hx : R32 x) (hb : bytX mem) (hl : lawsX mem cl) (hk : 0 ≤ mem 0 11 ∧ mem 0 11 ≤ 4) : con 0 bX11_text 37 [(2, 0), (0, x)] mem (textX mem cl x) := by
  have c : mem 0 11 = 1 ∨ mem 0 11 = 2 ∨ mem 0 11 = 3 ∨ (mem 0 11 = 0 ∨ mem 0 11 = 4) := by omega
  rcases c with c | c | c | c
  · exact c_X11_text_1 mem x cl hx hb hl hk.2 (fun _ => c)
  · exact c_X11_text_2 mem x cl hx hb hl hk.2 (fun _ => c)
  · exact c_X11_text_3 mem x cl hx hb hl hk.2 (fun _ => c)
  · exact c_X11_text_0 mem x cl hx hb hl hk.2 (fun z => by omega)
/-! text, of the model -/
