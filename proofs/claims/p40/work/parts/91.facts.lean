/-! what must hold of what is looked at: facts of the play alone -/
theorem leapF_like {kd n : Int} {a c : Int → Int} {s : Int} (h : 0 ≤ s) (hn : s < n) (g : ¬ leapF kd n a c s = -1) : likeF n a c (leapF kd n a c s) s := by
  have A : ¬ aheadF n a c s = -1 → likeF n a c (aheadF n a c s) s := fun z => by
    rcases aheadF_bnd n a c h with ⟨e, -⟩ | ⟨-, -, e, -⟩
    · exact absurd e z
    · exact e
  have B : ¬ behindF n a c s = -1 → likeF n a c (behindF n a c s) s := fun z => by
    rcases behindF_bnd n a c h hn with ⟨e, -⟩ | ⟨-, -, e, -⟩
    · exact absurd e z
    · exact e
  have A0 : -1 ≤ aheadF n a c s := by
    rcases aheadF_bnd n a c h with ⟨e, -⟩ | ⟨e, -⟩ <;> omega
  have B0 : -1 ≤ behindF n a c s := by
    rcases behindF_bnd n a c h hn with ⟨e, -⟩ | ⟨e, -⟩ <;> omega
  unfold leapF at g ⊢
  by_cases k0 : kd = 0
  · rw [if_pos k0] at g
    exact absurd rfl g
  · rw [if_neg k0] at g ⊢
    by_cases k1 : kd = 1
    · rw [if_pos k1] at g ⊢
      exact B g
    · rw [if_neg k1] at g ⊢
      by_cases k2 : kd = 2
      · rw [if_pos k2] at g ⊢
        exact A g
      · rw [if_neg k2] at g ⊢
        by_cases k3 : aheadF n a c s = -1 ∨ behindF n a c s = -1
        · rw [if_pos k3] at g ⊢
          by_cases q : aheadF n a c s ≤ behindF n a c s
          · rw [Int.max_eq_right q] at g ⊢
            exact B g
          · rw [Int.max_eq_left (by omega)] at g ⊢
            exact A g
        · rw [if_neg k3]
          by_cases k4 : s - aheadF n a c s ≤ behindF n a c s - s
          · rw [if_pos k4]
            exact A (fun z => k3 (Or.inl z))
          · rw [if_neg k4]
            exact B (fun z => k3 (Or.inr z))
/-- where one stops, as bits -/
theorem wltF_tb {n : Int} {to : Int → Int} {z : Int} (hn : 0 ≤ n ∧ n ≤ 24) : (0 ≤ wltF n to z ∧ wltF n to z < 16777216) ∧ ∀ j, 0 ≤ j → (tb (wltF n to z) j = true ↔ (j < n ∧ to j = z)) := by
  have e8 : p2 24 = 16777216 := by decide +kernel
  have := foldTo_inv (g := fun acc i => or32 acc (if to i = z then shl32 1 i else 0)) (z := 0) (n := n.toNat) (fun i x => (0 ≤ x ∧ x < 16777216) ∧ ∀ j, 0 ≤ j → (tb x j = true ↔ (j < i ∧ to j = z))) (by
    refine ⟨by omega, fun j j0 => ?_⟩
    rw [tb_0]
    constructor
    · intro h
      cases h
    · rintro ⟨t, -⟩
      omega) (fun i x i0 i1 h => by
    show (0 ≤ or32 x (if to i = z then shl32 1 i else 0) ∧ or32 x (if to i = z then shl32 1 i else 0) < 16777216) ∧ _
    by_cases q : to i = z
    · rw [if_pos q, shl1_eq i0 (by omega)]
      have m := p2_lt i0 (show i < 24 by omega)
      have pp := p2_pos i
      have o := or32_b (x := x) (y := p2 i) (b := 24) h.1.1 (by omega) (by omega) (by omega) (by decide)
      rw [e8] at o
      refine ⟨o.1, fun j j0 => ?_⟩
      rw [o.2, tb_p2 i0 j0, Bool.or_eq_true, h.2 j j0, decide_eq_true_iff]
      constructor
      · rintro (t | t)
        · exact ⟨by omega, t.2⟩
        · exact ⟨by omega, by rw [← t]; exact q⟩
      · rintro ⟨t1, t2⟩
        by_cases e : i = j
        · exact Or.inr e
        · exact Or.inl ⟨by omega, t2⟩
    · rw [if_neg q, or32_zero ⟨by omega, by omega⟩]
      refine ⟨h.1, fun j j0 => ?_⟩
      rw [h.2 j j0]
      constructor
      · rintro ⟨t1, t2⟩
        exact ⟨by omega, t2⟩
      · rintro ⟨t1, t2⟩
        refine ⟨?_, t2⟩
        by_cases e : j = i
        · rw [e] at t2
          exact absurd t2 q
        · omega)
  rw [show ((n.toNat : Nat) : Int) = n by omega] at this
  exact this
theorem stops_bit {n : Int} {to : Int → Int} (hn : 0 ≤ n ∧ n ≤ 24) {k : Int} (hk : 0 ≤ k ∧ k < n) : and32 (shr32 (wltF n to (-1)) k) 1 = if to k = -1 then 1 else 0 := by
  have h := wltF_tb (to := to) (z := -1) hn
  have e := bit_tb (x := wltF n to (-1)) (k := k) h.1.1 (by omega) hk.1 (by omega)
  by_cases q : to k = -1
  · rw [if_pos q]
    exact e.mpr ((h.2 k hk.1).mpr ⟨hk.2, q⟩)
  · rw [if_neg q, bit_eq h.1.1 (by omega) hk.1 (by omega)]
    have n1 : ¬ wltF n to (-1) / p2 k % 2 = 1 := fun z => q ((h.2 k hk.1).mp (e.mp (by rw [bit_eq h.1.1 (by omega) hk.1 (by omega)]; exact z))).2
    omega
/-- nothing lost: all is said once, to the end -/
theorem evSt_0 (to : Int → Int) : ∀ k : Nat, evSt to 0 k = (0, (k : Int))
  | 0 => rfl
  | k + 1 => by
    have ih := evSt_0 to k
    show (if ((evSt to 0 k).1 / p2 (evSt to 0 k).2) % 2 = 1 then _ else ((evSt to 0 k).1, (evSt to 0 k).2 + 1)) = _
    rw [ih, if_neg (by show ¬ (0 / p2 (k : Int)) % 2 = 1; rw [Int.zero_ediv]; decide)]
    show (0, (k : Int) + 1) = (0, ((k + 1 : Nat) : Int))
    rw [Int.natCast_succ]
theorem evEnd_0 {n : Int} {to : Int → Int} {k : Nat} (hn : 0 ≤ n ∧ n ≤ 24) (h : evEnd n to 0 k) : (k : Int) = n ∧ evOut n to 0 k = 0 := by
  have al : ∀ i : Nat, (i : Int) < n → evAlive n to 0 i := fun i hi => by
    refine ⟨by omega, by rw [evSt_0]; exact hi, ?_⟩
    unfold evV
    rw [evSt_0, if_neg (by show ¬ (0 / p2 (i : Int)) % 2 = 1; rw [Int.zero_ediv]; decide)]
    show ¬ (i : Int) = -1
    omega
  have e : (k : Int) = n := by
    refine Int.le_antisymm ?_ ?_
    · refine Int.not_lt.mp fun g => ?_
      have a := (h.1 n.toNat (by omega)).2.1
      rw [evSt_0] at a
      have : ((n.toNat : Nat) : Int) < n := a
      omega
    · exact Int.not_lt.mp fun g => h.2 (al k g)
  refine ⟨e, ?_⟩
  unfold evOut
  rw [evSt_0, if_pos (by show n ≤ (k : Int); omega)]
theorem evEnd_200 {n : Int} {to : Int → Int} {L : Int} {k : Nat} (h : evEnd n to L k) : k ≤ 200 := by
  refine Nat.not_lt.mp fun g => ?_
  have := (h.1 200 (by omega)).1
  omega
theorem evStop_iff {n : Int} {to : Int → Int} {L : Int} {k : Nat} (hn : 0 ≤ n) (ht : ∀ i, 0 ≤ i → i < n → -1 ≤ to i ∧ to i < n) (hL : 0 ≤ L) (h : evEnd n to L k) : evOut n to L k = 1 ↔ ¬ evStop n to L k = -1 := by
  have b := evSt_bnd hn ht hL k h.1
  unfold evStop
  constructor
  · intro g
    rw [if_pos g]
    omega
  · intro g
    by_cases q : evOut n to L k = 1
    · exact q
    · rw [if_neg q] at g
      exact absurd rfl g
theorem shortest_0 {n : Int} {to : Int → Int} {v : Int} (hn : 0 < n ∧ n ≤ 24) (h : extQ n to 0 0 0 v) : v = n := by
  rcases h with ⟨g, -⟩ | ⟨-, b, h, e⟩
  · exact absurd ⟨hn.1, by decide, by decide⟩ g
  · rw [if_pos rfl] at e
    obtain ⟨⟨rem, h1, -, h3, -, h5, -⟩, -⟩ := h
    have z : fb n rem 0 = -1 := fb_none (by omega) (fun i i0 i1 => popc_zero h1.1 h3 i0 (by omega))
    rw [rnS_none z] at h5
    have h5' : b.1 = 0 + (n - 0) := h5
    omega
theorem longest_ge {n : Int} {to : Int → Int} {v w : Int} (hn : 0 < n) (h : extQ n to 2 0 0 v) (h' : extQ n to 2 0 1 w) : v ≤ w := by
  rcases h with ⟨g, -⟩ | ⟨-, b, h, e⟩
  · exact absurd ⟨hn, by decide, by decide⟩ g
  · rcases h' with ⟨g, -⟩ | ⟨-, c, h', e'⟩
    · exact absurd ⟨hn, by decide, by decide⟩ g
    · rw [if_pos rfl] at e e'
      rcases h'.2 b.1 b.2 h.1 with q | q
      · rw [if_neg (by decide)] at q
        have q' : b.1 < c.1 := q
        omega
      · have q' : c.1 = b.1 := q.1
        omega
/-! players -/
theorem pB_mono {p q : Prop} (h : p → q) (g : pB p = true) : pB q = true := by
  rw [pB_iff] at g ⊢
  exact h g
theorem ndF_mono {sh sh' : Int → Bool} {f f' : Int → Int} {s : Int} (hs : 0 ≤ s ∧ s < 256) (hsh : ∀ g, sh' g = true → sh g = true) (h : ∀ r, 0 ≤ r → r < s → subB r s → f r ≤ f' r) (k : Nat) : ∀ g acc acc', 0 ≤ g → g ≤ s → subB g s → acc ≤ acc' → ndF sh f s k g acc ≤ ndF sh' f' s k g acc' := by
  induction k with
  | zero => intro g acc acc' _ _ _ ha; exact ha
  | succ k ih =>
    intro g acc acc' h0 h2 h3 ha
    rw [ndF_succ, ndF_succ]
    by_cases c : g ≤ 0
    · rw [if_pos c, if_pos c]
      exact ha
    · have n := next_sub hs ⟨by omega, h2⟩
      have x := subB_xor hs (by omega) h3
      rw [if_neg c, if_neg c]
      refine ih _ _ _ n.1.1 (by omega) n.2 ?_
      have := h _ x.1.1 x.1.2 x.2.2.2
      by_cases q : ¬ and32 g (and32 s (-s)) = 0 ∧ sh' g = true
      · rw [if_pos q, if_pos ⟨q.1, hsh g q.2⟩]
        omega
      · rw [if_neg q]
        split <;> omega
theorem ndF_pos {sh : Int → Bool} {f : Int → Int} {s : Int} (hs : 0 ≤ s ∧ s < 256) (h : ∀ r, 0 ≤ r → r < s → subB r s → 0 ≤ f r) (k : Nat) : ∀ g acc, 0 ≤ g → g ≤ s → subB g s → 1 ≤ acc → 1 ≤ ndF sh f s k g acc := by
  induction k with
  | zero => intro g acc _ _ _ ha; exact ha
  | succ k ih =>
    intro g acc h0 h2 h3 ha
    rw [ndF_succ]
    by_cases c : g ≤ 0
    · rw [if_pos c]
      exact ha
    · have n := next_sub hs ⟨by omega, h2⟩
      have x := subB_xor hs (by omega) h3
      rw [if_neg c]
      refine ih _ _ n.1.1 (by omega) n.2 ?_
      have := h _ x.1.1 x.1.2 x.2.2.2
      split <;> omega
theorem ndOK_mono {sh sh' : Int → Bool} {all K : Int} {f f' : Int → Int} (hK : K ≤ 256) (hsh : ∀ g, sh' g = true → sh g = true) (h : ndOK sh all K f) (h' : ndOK sh' all K f') : ∀ (t : Nat) (s : Int), s.toNat ≤ t → 0 ≤ s → s < K → subB s all → f s ≤ f' s := by
  intro t
  induction t with
  | zero =>
    intro s h0 h1 h2 h3
    rw [show s = 0 by omega, h.1, h'.1]
    omega
  | succ t ih =>
    intro s h0 h1 h2 h3
    by_cases c : s = 0
    · rw [c, h.1, h'.1]
      omega
    · rw [h.2 s (by omega) h2 h3, h'.2 s (by omega) h2 h3]
      exact ndF_mono ⟨by omega, by omega⟩ hsh (fun r r0 r1 r2 => ih r (by omega) r0 (by omega) (subB_trans r2 h3)) 256 s 8 8 (by omega) (Int.le_refl _) (subB_refl s) (Int.le_refl _)
theorem shB_mono {n : Int} {ac : Int → Int} {nr nr' : Int} (h : nr ≤ nr') (g : Int) (hs : shB n ac nr' g = true) : shB n ac nr g = true := by
  unfold shB at hs ⊢
  refine pB_mono (fun w a b ha hb hab ta tb' hn => w a b ha hb hab ta tb' ?_) hs
  obtain ⟨s, o, h1, h2, h3, h4, h5, h6⟩ := hn
  exact ⟨s, o, h1, h2, h3, h4, by omega, by omega⟩
theorem players_1 {n : Int} {ac : Int → Int} {x v : Int} (hn : 0 < n ∧ n ≤ 24) (ha : ∀ i, 0 ≤ i → i < n → 0 ≤ ac i ∧ ac i < 8) (hx : 1 ≤ x ∧ x ≤ 24) (h : playersP n ac x (-1) v) : (1 ≤ v ∧ v ≤ 8) ∧ ∃ f, ndOK (shB n ac x) (actF n ac) (actF n ac + 1) f ∧ v = f (actF n ac) := by
  have T := actF_tb (a := ac) (by omega) ha
  have h0 : 0 < actF n ac := by
    refine Int.not_le.mp fun g => ?_
    have z : actF n ac = 0 := by omega
    have := (T.2 (ac 0) (ha 0 (by decide) hn.1).1).mpr ⟨0, by decide, hn.1, rfl⟩
    rw [z, tb_0] at this
    cases this
  rcases h with ⟨g, -⟩ | ⟨-, -, f, h1, h2⟩ | ⟨-, ⟨g, -⟩, -⟩
  · exact absurd ⟨hn.1, hx, Or.inl rfl⟩ g
  · have B := ndOK_bnd (K := actF n ac + 1) (by omega) h1
    refine ⟨⟨?_, by rw [h2]; exact (B _ _ (Nat.le_refl _) (by omega) (by omega) (subB_refl _)).2⟩, f, h1, h2⟩
    rw [h2, h1.2 _ h0 (by omega) (subB_refl _)]
    exact ndF_pos ⟨by omega, by omega⟩ (fun r r0 r1 r2 => (B _ r (Nat.le_refl _) r0 (by omega) r2).1) 256 _ 8 (by omega) (Int.le_refl _) (subB_refl _) (by decide)
  · exact absurd g.1 (by decide)
theorem players_le {n : Int} {ac : Int → Int} {v w : Int} (hn : 0 < n ∧ n ≤ 24) (ha : ∀ i, 0 ≤ i → i < n → 0 ≤ ac i ∧ ac i < 8) (h : playersP n ac 1 (-1) v) (h' : playersP n ac 24 (-1) w) : v ≤ w := by
  have T := actF_tb (a := ac) (by omega) ha
  obtain ⟨-, f, h1, h2⟩ := players_1 hn ha (by decide) h
  obtain ⟨-, f', h1', h2'⟩ := players_1 hn ha (by decide) h'
  rw [h2, h2']
  exact ndOK_mono (by omega) (shB_mono (by decide)) h1 h1' _ _ (Nat.le_refl _) (by omega) (by omega) (subB_refl _)
/-! trial, reword -/
theorem trial_3 {n : Int} {fg : Int → Int → Int} {tk to len : Int → Int} {mk v : Int} (hn : 0 < n) (h : trialP n fg tk to len mk 3 0 v) : 0 ≤ v ∧ v ≤ 3 := by
  rcases h with ⟨g, -⟩ | ⟨-, f, h1, h2⟩
  · exact absurd ⟨hn, by decide, by decide⟩ g
  · have B := sumTo_bnd (f := f) (n := (3 : Int).toNat) (b := 1) (fun i i0 i1 => by
      obtain ⟨k, -, e⟩ := h1 i i0 (by have : i < ((3 : Int).toNat : Int) := i1; exact this)
      rw [if_pos rfl] at e
      rw [e]
      split <;> omega)
    rw [h2]
    have : (1 : Int) * (((3 : Int).toNat : Nat) : Int) = 3 := by decide
    omega
theorem wtcF_lt {n : Int} {a c : Int → Int} (hn : 0 < n) : 0 ≤ wtcF n a c ∧ wtcF n a c < n := by
  have : ∀ k : Nat, 0 ≤ sumTo (fun i => b2i (¬ aheadF n a c i = -1)) (k + 1) ∧ sumTo (fun i => b2i (¬ aheadF n a c i = -1)) (k + 1) ≤ k := by
    intro k
    induction k with
    | zero =>
      rw [sumTo_succ]
      show 0 ≤ (0 : Int) + b2i (¬ aheadF n a c ((0 : Nat) : Int) = -1) ∧ (0 : Int) + b2i (¬ aheadF n a c ((0 : Nat) : Int) = -1) ≤ ((0 : Nat) : Int)
      rw [b2i_0 (show ¬ ¬ aheadF n a c ((0 : Nat) : Int) = -1 from fun z => z rfl)]
      decide
    | succ k ih =>
      rw [sumTo_succ]
      have := b2i_rng (¬ aheadF n a c ((k + 1 : Nat) : Int) = -1)
      have e : (((k + 1 : Nat)) : Int) = (k : Int) + 1 := rfl
      show 0 ≤ sumTo (fun i => b2i (¬ aheadF n a c i = -1)) (k + 1) + b2i (¬ aheadF n a c ((k + 1 : Nat) : Int) = -1) ∧ _
      omega
  have e := this (n.toNat - 1)
  rw [show n.toNat - 1 + 1 = n.toNat by omega] at e
  unfold wtcF
  omega
/-! a night -/
theorem ntStep_all (fg : Int → Int → Int) (tk to : Int → Int) (mk : Int) (s : ntT) : (¬ ntV fg tk to mk s = -1 → (ntStep fg tk to mk s).2.2.2.2.1 - s.2.2.2.2.1 = ((ntStep fg tk to mk s).2.2.1 - s.2.2.1) - ((ntStep fg tk to mk s).2.2.2.1 - s.2.2.2.1)) ∧ (ntV fg tk to mk s = -1 → 0 ≤ s.2.1 → (ntStep fg tk to mk s).2.2.2.2.1 = s.2.2.2.2.1 ∧ (ntStep fg tk to mk s).2.2.1 = s.2.2.1 + 1 ∧ (ntStep fg tk to mk s).2.2.2.1 = s.2.2.2.1) ∧ (0 ≤ (ntStep fg tk to mk s).2.2.2.1 - s.2.2.2.1 ∧ (ntStep fg tk to mk s).2.2.2.1 - s.2.2.2.1 ≤ (ntStep fg tk to mk s).2.2.1 - s.2.2.1) := by
  unfold ntStep ntV
  by_cases l : ntLost fg mk s.1 s.2.1
  · rw [if_pos l]
    by_cases v : ntSave tk mk s.1 s.2.1
    · rw [if_pos v, if_neg (fun z => z.2 v)]
      refine ⟨fun _ => ?_, fun z z0 => by omega, ?_⟩
      · show s.2.2.2.2.1 - s.2.2.2.2.1 = (s.2.2.1 + 1 - s.2.2.1) - (s.2.2.2.1 + 1 - s.2.2.2.1)
        omega
      · show 0 ≤ s.2.2.2.1 + 1 - s.2.2.2.1 ∧ s.2.2.2.1 + 1 - s.2.2.2.1 ≤ s.2.2.1 + 1 - s.2.2.1
        omega
    · rw [if_neg v, if_pos ⟨l, v⟩]
      refine ⟨fun z => ?_, fun z z0 => ⟨?_, rfl, rfl⟩, ?_⟩
      · show s.2.2.2.2.1 + (if to s.2.1 = -1 then 0 else 1) - s.2.2.2.2.1 = (s.2.2.1 + 1 - s.2.2.1) - (s.2.2.2.1 - s.2.2.2.1)
        rw [if_neg z]
        omega
      · show s.2.2.2.2.1 + (if to s.2.1 = -1 then 0 else 1) = s.2.2.2.2.1
        rw [if_pos z]
        omega
      · show 0 ≤ s.2.2.2.1 - s.2.2.2.1 ∧ s.2.2.2.1 - s.2.2.2.1 ≤ s.2.2.1 + 1 - s.2.2.1
        omega
  · rw [if_neg l, if_neg (fun z => l z.1)]
    refine ⟨fun _ => ?_, fun z z0 => by omega, ?_⟩
    · show s.2.2.2.2.1 - s.2.2.2.2.1 = (s.2.2.1 - s.2.2.1) - (s.2.2.2.1 - s.2.2.2.1)
      omega
    · show 0 ≤ s.2.2.2.1 - s.2.2.2.1 ∧ s.2.2.2.1 - s.2.2.2.1 ≤ s.2.2.1 - s.2.2.1
      omega
theorem ntSt_all {n : Int} {fg : Int → Int → Int} {tk to : Int → Int} {mk seed : Int} : ∀ k : Nat, (∀ i, i < k → ntAlive n fg tk to mk seed i) → (ntSt fg tk to mk seed k).2.2.2.2.1 = (ntSt fg tk to mk seed k).2.2.1 - (ntSt fg tk to mk seed k).2.2.2.1 ∧ (ntSt fg tk to mk seed k).2.2.2.1 ≤ (ntSt fg tk to mk seed k).2.2.1 := by
  intro k
  induction k with
  | zero =>
    intro _
    show (0 : Int) = 0 - 0 ∧ (0 : Int) ≤ 0
    decide
  | succ k ih =>
    intro h
    have i0 := ih (fun i hi => h i (by omega))
    have st := ntStep_all fg tk to mk (ntSt fg tk to mk seed k)
    have s1 := st.1 (h k (by omega)).2.2
    have s3 := st.2.2
    have e : ntSt fg tk to mk seed (k + 1) = ntStep fg tk to mk (ntSt fg tk to mk seed k) := rfl
    rw [e]
    omega
theorem ntFin_all {n : Int} {fg : Int → Int → Int} {tk to : Int → Int} {mk seed : Int} {k : Nat} (hn : 0 ≤ n) (ht : ∀ i, 0 ≤ i → i < n → -1 ≤ to i ∧ to i < n) (h : ntEnd n fg tk to mk seed k) : (ntOut n fg tk to mk seed k = 0 ∨ ntOut n fg tk to mk seed k = 1 ∨ ntOut n fg tk to mk seed k = 2) ∧ (ntFin n fg tk to mk seed k).2.2.2.1 ≤ (ntFin n fg tk to mk seed k).2.2.1 ∧ (ntFin n fg tk to mk seed k).2.2.2.2.1 ≤ (ntFin n fg tk to mk seed k).2.2.1 - (ntFin n fg tk to mk seed k).2.2.2.1 ∧ (ntOut n fg tk to mk seed k = 0 → (ntFin n fg tk to mk seed k).2.2.2.2.1 = (ntFin n fg tk to mk seed k).2.2.1 - (ntFin n fg tk to mk seed k).2.2.2.1) := by
  have a := ntSt_all k h.1
  have c := ntSt_come hn ht k h.1
  refine ⟨?_, ?_⟩
  · unfold ntOut
    split
    · exact Or.inl rfl
    · split
      · exact Or.inr (Or.inr rfl)
      · exact Or.inr (Or.inl rfl)
  · unfold ntFin
    by_cases q : ntOut n fg tk to mk seed k = 1
    · have v : ntV fg tk to mk (ntSt fg tk to mk seed k) = -1 := by
        unfold ntOut at q
        by_cases g1 : n ≤ (ntSt fg tk to mk seed k).2.1
        · rw [if_pos g1] at q
          omega
        · rw [if_neg g1] at q
          by_cases g2 : 200 ≤ k
          · rw [if_pos g2] at q
            omega
          · exact Decidable.byContradiction fun z => h.2 ⟨by omega, by omega, z⟩
      have s := (ntStep_all fg tk to mk (ntSt fg tk to mk seed k)).2.1 v c.1
      have e : ntSt fg tk to mk seed (k + 1) = ntStep fg tk to mk (ntSt fg tk to mk seed k) := rfl
      rw [if_pos q, e]
      omega
    · rw [if_neg q]
      omega
