/-! evenings with few losses: how many are said, and which are really lost -/
theorem tb_sub {x k : Int} (h0 : 0 ≤ x) (k0 : 0 ≤ k) (h : tb x k = true) : (0 ≤ x - p2 k ∧ x - p2 k < x) ∧ ∀ i, 0 ≤ i → tb (x - p2 k) i = (tb x i && !decide (k = i)) := by
  have hb := (bitS_tb h0).mpr h
  have s := bit_split (bit_nat h0 hb)
  have pp := p2_pos k
  have e : (x - p2 k).toNat = x.toNat - 2 ^ k.toNat := by
    unfold p2
    omega
  refine ⟨by unfold p2 at *; omega, fun i i0 => ?_⟩
  have z : tb (x - p2 k) k = false := by
    unfold tb
    rw [e, Nat.testBit_eq_decide_div_mod_eq, s.2.1]
    rfl
  have o : tb x i = (tb (x - p2 k) i || decide (k = i)) := by
    have := congrArg (fun y => y.testBit i.toNat) s.2.2
    simp only [Nat.testBit_or, Nat.testBit_two_pow] at this
    unfold tb
    rw [e, this]
    congr 1
    by_cases q : k = i
    · rw [decide_eq_true q, decide_eq_true (by omega)]
    · rw [decide_eq_false q, decide_eq_false (by omega)]
  rw [o]
  by_cases q : k = i
  · rw [← q, z, decide_eq_true rfl]
    rfl
  · rw [decide_eq_false q, Bool.or_false, Bool.not_false, Bool.and_true]
theorem tb_add {x k b : Int} (h0 : 0 ≤ x) (h1 : x < p2 b) (k0 : 0 ≤ k) (k1 : k < b) (hb : b ≤ 31) (h : tb x k = false) : (0 ≤ x + p2 k ∧ x + p2 k < p2 b) ∧ or32 x (shl32 1 k) = x + p2 k ∧ ∀ i, 0 ≤ i → tb (x + p2 k) i = (tb x i || decide (k = i)) := by
  have m := p2_mono hb
  have e31 : p2 31 = 2147483648 := by decide +kernel
  have pl := p2_lt k0 k1
  have pp := p2_pos k
  have e := or32_bit (x := x) (k := k) h0 (by omega) k0 (by omega) (fun z => by
    have := (bitS_tb h0).mp z
    rw [h] at this
    cases this)
  have s := shl1_eq (k := k) k0 (by omega)
  have o := or32_b (x := x) (y := p2 k) (b := b) h0 h1 (by omega) (by omega) hb
  rw [← s, e] at o
  refine ⟨o.1, e, fun i i0 => ?_⟩
  rw [o.2, s, tb_p2 k0 i0]
theorem popc_tb {x : Int} (h0 : 0 ≤ x) : popc x = sumTo (fun i => b2i (tb x i = true)) 24 := by
  refine sumTo_congr (fun i i0 i1 => ?_)
  show x / p2 i % 2 = b2i (tb x i = true)
  by_cases h : tb x i = true
  · rw [b2i_1 h]
    exact (bitS_tb h0).mpr h
  · rw [b2i_0 h]
    have : ¬ bitS x i := fun z => h ((bitS_tb h0).mp z)
    unfold bitS at this
    omega
theorem popc_sub {x k : Int} (h0 : 0 ≤ x) (k0 : 0 ≤ k) (k1 : k < 24) (h : tb x k = true) : popc (x - p2 k) = popc x - 1 := by
  have t := tb_sub h0 k0 h
  rw [popc_tb t.1.1, popc_tb h0]
  have u := sumTo_upd (fun i => b2i (tb x i = true)) k 0 24 ⟨k0, k1⟩
  have e : sumTo (fun i => b2i (tb (x - p2 k) i = true)) 24 = sumTo (updF (fun i => b2i (tb x i = true)) k 0) 24 := sumTo_congr (fun i i0 i1 => by
    unfold updF
    split
    · rename_i q
      rw [t.2 i i0, q, decide_eq_true rfl]
      exact b2i_0 (by simp)
    · rename_i q
      rw [t.2 i i0, decide_eq_false (fun z => q z.symm), Bool.not_false, Bool.and_true])
  rw [e, u, b2i_1 h]
  omega
theorem popc_zero {x : Int} (h0 : 0 ≤ x) (h : popc x ≤ 0) {i : Int} (i0 : 0 ≤ i) (i1 : i < 24) : tb x i = false := by
  rw [popc_tb h0] at h
  have := sumTo_ge (f := fun i => b2i (tb x i = true)) (n := 24) (fun i _ _ => (b2i_rng _).1) i0 i1
  cases q : tb x i
  · rfl
  · have e : b2i (tb x i = true) = 1 := b2i_1 q
    omega
theorem popc_nn (x : Int) : 0 ≤ popc x := (popc_bnd x).1
/-- the first bit from come on -/
def fb (n rem come : Int) : Int := upFrom (fun i => tb rem i) come (n - come).toNat
theorem fb_spec {n rem come : Int} (hc : 0 ≤ come ∧ come ≤ n) : (fb n rem come = -1 ∧ ∀ i, come ≤ i → i < n → tb rem i = false) ∨ ((come ≤ fb n rem come ∧ fb n rem come < n) ∧ tb rem (fb n rem come) = true ∧ ∀ i, come ≤ i → i < fb n rem come → tb rem i = false) := by
  unfold fb
  rcases upFrom_spec (fun i => tb rem i) (n - come).toNat come hc.1 with ⟨h1, h2⟩ | ⟨h1, h2, h3, h4⟩
  · exact Or.inl ⟨h1, fun i a b => h2 i a (by omega)⟩
  · exact Or.inr ⟨⟨h1, by omega⟩, h3, h4⟩
theorem fb_is {n rem come j : Int} (hc : 0 ≤ come ∧ come ≤ n) (hj : come ≤ j ∧ j < n) (ht : tb rem j = true) (hn : ∀ i, come ≤ i → i < j → tb rem i = false) : fb n rem come = j := by
  rcases fb_spec (rem := rem) hc with ⟨h1, h2⟩ | ⟨h1, h2, h3⟩
  · rw [h2 j hj.1 hj.2] at ht
    cases ht
  · rcases Int.lt_trichotomy (fb n rem come) j with q | q | q
    · rw [hn _ h1.1 q] at h2
      cases h2
    · exact q
    · rw [h3 j hj.1 q] at ht
      cases ht
theorem fb_none {n rem come : Int} (hc : 0 ≤ come ∧ come ≤ n) (hn : ∀ i, come ≤ i → i < n → tb rem i = false) : fb n rem come = -1 := by
  rcases fb_spec (rem := rem) hc with ⟨h1, h2⟩ | ⟨h1, h2, h3⟩
  · exact h1
  · rw [hn _ h1.1 h1.2] at h2
    cases h2
/-- from a speech that is come to, with these losses still to come: how many more are said (-1: it stops), and what is lost -/
def rnS (n : Int) (to : Int → Int) : Nat → Int → Int → Int × Int
  | 0, come, rem => if fb n rem come = -1 then (n - come, 0) else (-1, 0)
  | l + 1, come, rem => if fb n rem come = -1 then (n - come, 0) else if to (fb n rem come) = -1 then (-1, 0) else if (rnS n to l (to (fb n rem come) + 1) (rem - p2 (fb n rem come))).1 = -1 then (-1, 0) else (fb n rem come - come + 1 + (rnS n to l (to (fb n rem come) + 1) (rem - p2 (fb n rem come))).1, p2 (fb n rem come) + (rnS n to l (to (fb n rem come) + 1) (rem - p2 (fb n rem come))).2)
theorem rnS_none {n : Int} {to : Int → Int} {l : Nat} {come rem : Int} (h : fb n rem come = -1) : rnS n to l come rem = (n - come, 0) := by
  cases l with
  | zero => exact if_pos h
  | succ l => exact if_pos h
theorem rnS_stop {n : Int} {to : Int → Int} {l : Nat} {come rem : Int} (h : ¬ fb n rem come = -1) (ht : to (fb n rem come) = -1) : rnS n to (l + 1) come rem = (-1, 0) := (if_neg h).trans (if_pos ht)
theorem rnS_go {n : Int} {to : Int → Int} {l : Nat} {come rem j : Int} (e : fb n rem come = j) (h : ¬ j = -1) (ht : ¬ to j = -1) : rnS n to (l + 1) come rem = if (rnS n to l (to j + 1) (rem - p2 j)).1 = -1 then (-1, 0) else (j - come + 1 + (rnS n to l (to j + 1) (rem - p2 j)).1, p2 j + (rnS n to l (to j + 1) (rem - p2 j)).2) := by
  subst e
  exact (if_neg h).trans (if_neg ht)
def toP (n : Int) (to : Int → Int) : Prop := ∀ i, 0 ≤ i → i < n → -1 ≤ to i ∧ to i < n
theorem rnS_ok {n : Int} {to : Int → Int} (hn : 0 ≤ n ∧ n ≤ 24) (ht : toP n to) (l : Nat) : ∀ come rem, (0 ≤ come ∧ come ≤ n) → (0 ≤ rem ∧ rem < p2 n) → (rnS n to l come rem).1 = -1 ∨ ((0 ≤ (rnS n to l come rem).1 ∧ (rnS n to l come rem).1 ≤ 24 * ((l : Int) + 1)) ∧ (0 ≤ (rnS n to l come rem).2 ∧ (rnS n to l come rem).2 ≤ rem) ∧ (∀ i, 0 ≤ i → tb (rnS n to l come rem).2 i = true → tb rem i = true) ∧ rnS n to l come (rnS n to l come rem).2 = rnS n to l come rem) := by
  induction l with
  | zero =>
    intro come rem hc hr
    by_cases c : fb n rem come = -1
    · rw [rnS_none c]
      refine Or.inr ⟨by show 0 ≤ n - come ∧ n - come ≤ 24 * (((0 : Nat) : Int) + 1); omega, ⟨Int.le_refl 0, hr.1⟩, fun i i0 h => ?_, ?_⟩
      · have := tb_0 i
        rw [this] at h
        cases h
      · exact rnS_none (fb_none hc (fun i _ _ => tb_0 i))
    · exact Or.inl (congrArg Prod.fst (if_neg c : rnS n to 0 come rem = (-1, 0)))
  | succ l ih =>
    intro come rem hc hr
    rcases fb_spec (rem := rem) hc with ⟨h1, h2⟩ | ⟨h1, h2, h3⟩
    · rw [rnS_none h1]
      refine Or.inr ⟨by show 0 ≤ n - come ∧ n - come ≤ 24 * (((l + 1 : Nat) : Int) + 1); omega, ⟨Int.le_refl 0, hr.1⟩, fun i i0 h => ?_, ?_⟩
      · have := tb_0 i
        rw [this] at h
        cases h
      · exact rnS_none (fb_none hc (fun i _ _ => tb_0 i))
    · generalize hj : fb n rem come = j at *
      by_cases c : to j = -1
      · exact Or.inl (congrArg Prod.fst (rnS_stop (l := l) (by rw [hj]; omega) (by rw [hj]; exact c)))
      · have tj := ht j (by omega) h1.2
        have sb := tb_sub hr.1 (show 0 ≤ j by omega) h2
        have go := rnS_go (l := l) (to := to) hj (by omega) c
        have i1 := ih (to j + 1) (rem - p2 j) (by omega) (by omega)
        generalize hR : rnS n to l (to j + 1) (rem - p2 j) = R at *
        rcases i1 with i1 | ⟨i1, i2, i3, i4⟩
        · rw [if_pos i1] at go
          rw [go]
          exact Or.inl rfl
        · rw [if_neg (by omega)] at go
          rw [go]
          -- what is lost, as bits
          have rj : tb R.2 j = false := by
            cases q : tb R.2 j
            · rfl
            · have := i3 j (by omega) q
              rw [sb.2 j (by omega), decide_eq_true rfl] at this
              simp at this
          have ad := tb_add (x := R.2) (k := j) (b := 24) i2.1 (by have := p2_24 hn.2; have e24 : p2 24 = 16777216 := by decide +kernel
                                                                   omega) (by omega) (by omega) (by decide) rj
          have fin : ∀ i, 0 ≤ i → tb (p2 j + R.2) i = true → tb rem i = true := by
            intro i i0 h
            rw [Int.add_comm, ad.2.2 i i0, Bool.or_eq_true, decide_eq_true_iff] at h
            rcases h with h | h
            · have := i3 i i0 h
              rw [sb.2 i i0, Bool.and_eq_true] at this
              exact this.1
            · rw [← h]
              exact h2
          refine Or.inr ⟨by show 0 ≤ j - come + 1 + R.1 ∧ j - come + 1 + R.1 ≤ 24 * (((l + 1 : Nat) : Int) + 1); omega, ⟨by show 0 ≤ p2 j + R.2; have := p2_pos j; omega, by show p2 j + R.2 ≤ rem; omega⟩, fin, ?_⟩
          have f2 : fb n (p2 j + R.2) come = j := by
            refine fb_is hc h1 ?_ (fun i a b => ?_)
            · rw [Int.add_comm, ad.2.2 j (by omega), decide_eq_true rfl, Bool.or_true]
            · cases q : tb (p2 j + R.2) i
              · rfl
              · have := fin i (by omega) q
                rw [h3 i a b] at this
                cases this
          have go2 := rnS_go (l := l) (to := to) f2 (by omega) c
          rw [show p2 j + R.2 - p2 j = R.2 by omega, i4, if_neg (by omega)] at go2
          exact go2
/-! which is better -/
def leqE (long : Int) (b c : Int × Int) : Prop := (if long = 0 then b.1 < c.1 else c.1 < b.1) ∨ (b.1 = c.1 ∧ b.2 ≤ c.2)
theorem leqE_refl (long : Int) (b : Int × Int) : leqE long b b := Or.inr ⟨rfl, Int.le_refl _⟩
theorem leqE_trans {long : Int} {a b c : Int × Int} (h : leqE long a b) (h' : leqE long b c) : leqE long a c := by
  unfold leqE at *
  by_cases q : long = 0
  · rw [if_pos q] at *
    omega
  · rw [if_neg q] at *
    omega
theorem leqE_anti {long : Int} {a b : Int × Int} (h : leqE long a b) (h' : leqE long b a) : a = b := by
  unfold leqE at *
  have : a.1 = b.1 ∧ a.2 = b.2 := by
    by_cases q : long = 0
    · rw [if_pos q] at *
      omega
    · rw [if_neg q] at *
      omega
  exact Prod.ext this.1 this.2
/-- b' is b, or one of C; at least as good as b and all of C -/
def bstE (long : Int) (b : Int × Int) (C : Int → Int → Prop) (b' : Int × Int) : Prop := (b' = b ∨ (C b'.1 b'.2 ∧ ¬ b'.1 = -1)) ∧ (¬ b.1 = -1 → ¬ b'.1 = -1 ∧ leqE long b' b) ∧ ∀ x y, C x y → ¬ b'.1 = -1 ∧ leqE long b' (x, y)
theorem bstE_none {long : Int} {b : Int × Int} {C : Int → Int → Prop} (h : ∀ x y, ¬ C x y) : bstE long b C b := ⟨Or.inl rfl, fun h => ⟨h, leqE_refl _ _⟩, fun x y c => absurd c (h x y)⟩
theorem bstE_trans {long : Int} {b b1 b2 : Int × Int} {C1 C2 C : Int → Int → Prop} (h1 : bstE long b C1 b1) (h2 : bstE long b1 C2 b2) (hC : ∀ x y, C x y ↔ (C1 x y ∨ C2 x y)) : bstE long b C b2 := by
  obtain ⟨p1, p2', p3⟩ := h1
  obtain ⟨q1, q2, q3⟩ := h2
  refine ⟨?_, fun h => ?_, fun x y c => ?_⟩
  · rcases q1 with q1 | q1
    · rw [q1]
      rcases p1 with p1 | p1
      · exact Or.inl p1
      · exact Or.inr ⟨(hC _ _).mpr (Or.inl p1.1), p1.2⟩
    · exact Or.inr ⟨(hC _ _).mpr (Or.inr q1.1), q1.2⟩
  · have a := p2' h
    have b := q2 a.1
    exact ⟨b.1, leqE_trans b.2 a.2⟩
  · rcases (hC x y).mp c with c | c
    · have a := p3 x y c
      have b := q2 a.1
      exact ⟨b.1, leqE_trans b.2 a.2⟩
    · exact q3 x y c
theorem bstE_congr {long : Int} {b b' : Int × Int} {C C' : Int → Int → Prop} (h : bstE long b C b') (hC : ∀ x y, C x y ↔ C' x y) : bstE long b C' b' :=
  ⟨h.1.imp id (fun z => ⟨(hC _ _).mp z.1, z.2⟩), h.2.1, fun x y c => h.2.2 x y ((hC _ _).mpr c)⟩
/-- what can still be reached -/
def candE (n : Int) (to : Int → Int) (l : Nat) (come said met losses x y : Int) : Prop := ∃ rem, (0 ≤ rem ∧ rem < p2 n) ∧ (∀ i, 0 ≤ i → tb rem i = true → tb met i = false) ∧ popc rem ≤ (l : Int) ∧ ¬ (rnS n to l come rem).1 = -1 ∧ x = said + (rnS n to l come rem).1 ∧ y = losses + (rnS n to l come rem).2
/-- of these, those that first lose one below i -/
def candI (n : Int) (to : Int → Int) (l : Nat) (come said met losses i x y : Int) : Prop := ∃ rem, (0 ≤ rem ∧ rem < p2 n) ∧ (∀ i, 0 ≤ i → tb rem i = true → tb met i = false) ∧ popc rem ≤ (l : Int) ∧ ¬ (rnS n to l come rem).1 = -1 ∧ x = said + (rnS n to l come rem).1 ∧ y = losses + (rnS n to l come rem).2 ∧ ¬ fb n rem come = -1 ∧ fb n rem come < i
theorem candE_all {n : Int} {to : Int → Int} {l : Nat} {come said met losses : Int} (hc : 0 ≤ come ∧ come ≤ n) (x y : Int) : candE n to l come said met losses x y ↔ (candI n to l come said met losses n x y ∨ (x = said + (n - come) ∧ y = losses)) := by
  constructor
  · rintro ⟨rem, h1, h2, h3, h4, h5, h6⟩
    by_cases c : fb n rem come = -1
    · rw [rnS_none c] at h5 h6
      exact Or.inr ⟨h5, by rw [h6]; show losses + 0 = losses; omega⟩
    · rcases fb_spec (rem := rem) hc with q | q
      · exact absurd q.1 c
      · exact Or.inl ⟨rem, h1, h2, h3, h4, h5, h6, c, q.1.2⟩
  · rintro (⟨rem, h1, h2, h3, h4, h5, h6, h7, h8⟩ | ⟨h1, h2⟩)
    · exact ⟨rem, h1, h2, h3, h4, h5, h6⟩
    · have c : fb n 0 come = -1 := fb_none hc (fun i _ _ => tb_0 i)
      have p0 : popc 0 = 0 := by decide +kernel
      refine ⟨0, ⟨Int.le_refl 0, p2_pos n⟩, fun i i0 h => ?_, by omega, ?_, ?_, ?_⟩
      · rw [tb_0] at h
        cases h
      · rw [rnS_none c]
        show ¬ n - come = -1
        omega
      · rw [rnS_none c]
        exact h1
      · rw [rnS_none c, h2]
        show losses = losses + 0
        omega
theorem candI_first {n : Int} {to : Int → Int} {l : Nat} {come said met losses x y : Int} (hc : 0 ≤ come ∧ come ≤ n) : ¬ candI n to l come said met losses come x y := by
  rintro ⟨rem, h1, h2, h3, h4, h5, h6, h7, h8⟩
  rcases fb_spec (rem := rem) hc with q | q
  · exact h7 q.1
  · omega
theorem candI_skip {n : Int} {to : Int → Int} {l : Nat} {come said met losses i : Int} (hc : 0 ≤ come ∧ come ≤ n) (hi : come ≤ i ∧ i < n) (h : tb met i = true ∨ to i = -1) (x y : Int) : candI n to (l + 1) come said met losses (i + 1) x y ↔ candI n to (l + 1) come said met losses i x y := by
  constructor
  · rintro ⟨rem, h1, h2, h3, h4, h5, h6, h7, h8⟩
    refine ⟨rem, h1, h2, h3, h4, h5, h6, h7, ?_⟩
    by_cases c : fb n rem come = i
    · rcases fb_spec (rem := rem) hc with q | q
      · exact absurd q.1 h7
      · rcases h with h | h
        · have := h2 _ (by omega) q.2.1
          rw [c, h] at this
          cases this
        · exact absurd (congrArg Prod.fst (rnS_stop (l := l) h7 (by rw [c]; exact h))) h4
    · omega
  · rintro ⟨rem, h1, h2, h3, h4, h5, h6, h7, h8⟩
    exact ⟨rem, h1, h2, h3, h4, h5, h6, h7, by omega⟩
theorem candI_step {n : Int} {to : Int → Int} {l : Nat} {come said met losses i : Int} (hn : 0 ≤ n ∧ n ≤ 24) (ht : toP n to) (hc : 0 ≤ come ∧ come ≤ n) (hi : come ≤ i ∧ i < n) (hm : tb met i = false) (hto : ¬ to i = -1) (M : Int) (hM : ∀ j, 0 ≤ j → (tb M j = true ↔ (tb met j = true ∨ (come ≤ j ∧ j ≤ i)))) (x y : Int) : candI n to (l + 1) come said met losses (i + 1) x y ↔ (candI n to (l + 1) come said met losses i x y ∨ candE n to l (to i + 1) (said + (i - come) + 1) M (losses + p2 i) x y) := by
  have ti := ht i (by omega) hi.2
  have pn : p2 n ≤ 16777216 := p2_24 hn.2
  constructor
  · rintro ⟨rem, h1, h2, h3, h4, h5, h6, h7, h8⟩
    by_cases c : fb n rem come = i
    · right
      rcases fb_spec (rem := rem) hc with q | q
      · exact absurd q.1 h7
      · rw [c] at q
        have sb := tb_sub h1.1 (show 0 ≤ i by omega) q.2.1
        have ps := popc_sub h1.1 (show 0 ≤ i by omega) (by omega) q.2.1
        have go := rnS_go (l := l) (to := to) c (by omega) hto
        by_cases z : (rnS n to l (to i + 1) (rem - p2 i)).1 = -1
        · rw [if_pos z] at go
          rw [go] at h4
          exact absurd rfl h4
        · rw [if_neg z] at go
          rw [go] at h5 h6
          refine ⟨rem - p2 i, by omega, fun j j0 hj => ?_, by rw [ps]; omega, z, by rw [h5]; show said + (i - come + 1 + _) = _; omega, by rw [h6]; show losses + (p2 i + _) = _; omega⟩
          rw [sb.2 j j0, Bool.and_eq_true, Bool.not_eq_true', decide_eq_false_iff_not] at hj
          cases w : tb M j
          · rfl
          · rcases (hM j j0).mp w with v | v
            · rw [h2 j j0 hj.1] at v
              cases v
            · have := q.2.2 j v.1 (by omega)
              rw [this] at hj
              cases hj.1
    · exact Or.inl ⟨rem, h1, h2, h3, h4, h5, h6, h7, by omega⟩
  · rintro (⟨rem, h1, h2, h3, h4, h5, h6, h7, h8⟩ | ⟨rem, h1, h2, h3, h4, h5, h6⟩)
    · exact ⟨rem, h1, h2, h3, h4, h5, h6, h7, by omega⟩
    · have nm : ∀ j, 0 ≤ j → (tb met j = true ∨ (come ≤ j ∧ j ≤ i)) → tb rem j = false := by
        intro j j0 h
        cases w : tb rem j
        · rfl
        · have := h2 j j0 w
          rw [(hM j j0).mpr h] at this
          cases this
      have ri : tb rem i = false := nm i (by omega) (Or.inr ⟨hi.1, Int.le_refl _⟩)
      have ad := tb_add (x := rem) (k := i) (b := n) h1.1 h1.2 (by omega) hi.2 (by omega) ri
      have f2 : fb n (rem + p2 i) come = i := by
        refine fb_is hc hi ?_ (fun j a b => ?_)
        · rw [ad.2.2 i (by omega), decide_eq_true rfl, Bool.or_true]
        · rw [ad.2.2 j (by omega), nm j (by omega) (Or.inr ⟨a, by omega⟩), decide_eq_false (by omega)]
          rfl
      have go := rnS_go (l := l) (to := to) f2 (by omega) hto
      rw [show rem + p2 i - p2 i = rem by omega, if_neg h4] at go
      have ok := rnS_ok hn ht l (to i + 1) rem (by omega) h1
      have ps := popc_sub (x := rem + p2 i) (k := i) ad.1.1 (by omega) (by omega) (by rw [ad.2.2 i (by omega), decide_eq_true rfl, Bool.or_true])
      rw [show rem + p2 i - p2 i = rem by omega] at ps
      refine ⟨rem + p2 i, ad.1, fun j j0 hj => ?_, by omega, ?_, ?_, ?_, by omega, by omega⟩
      · rw [ad.2.2 j j0, Bool.or_eq_true, decide_eq_true_iff] at hj
        rcases hj with hj | hj
        · cases w : tb met j
          · rfl
          · rw [nm j j0 (Or.inl w)] at hj
            cases hj
        · rw [← hj]
          exact hm
      · rw [go]
        show ¬ i - come + 1 + (rnS n to l (to i + 1) rem).1 = -1
        omega
      · rw [go, h5]
        show said + (i - come) + 1 + _ = said + (i - come + 1 + _)
        omega
      · rw [go, h6]
        show losses + p2 i + _ = losses + (p2 i + _)
        omega
