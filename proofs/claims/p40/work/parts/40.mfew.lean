/-! evenings with few losses, of M -/
theorem ev_bit {to : Int → Int} {L : Int} {i : Nat} {rem come : Int} (hs : evSt to L i = (rem, come)) (h0 : 0 ≤ rem) : ((evSt to L i).1 / p2 (evSt to L i).2 % 2 = 1) ↔ tb rem come = true := by
  rw [hs]
  exact bitS_tb h0
theorem ev_walk {n : Int} {to : Int → Int} {L : Int} {i : Nat} {rem come : Int} (hs : evSt to L i = (rem, come)) (ha : ∀ t, t < i → evAlive n to L t) (h0 : 0 ≤ rem) (hc : 0 ≤ come) : ∀ d : Nat, come + d ≤ n → (∀ j, come ≤ j → j < come + d → tb rem j = false) → i + d ≤ 200 → evSt to L (i + d) = (rem, come + d) ∧ ∀ t, t < i + d → evAlive n to L t := by
  intro d
  induction d with
  | zero =>
    intro _ _ _
    refine ⟨?_, ha⟩
    show evSt to L i = (rem, come + ((0 : Nat) : Int))
    rw [hs, show come + ((0 : Nat) : Int) = come by omega]
  | succ d ih =>
    intro h1 h2 h3
    obtain ⟨i1, i2⟩ := ih (by omega) (fun j a b => h2 j a (by omega)) (by omega)
    have nb : ¬ ((evSt to L (i + d)).1 / p2 (evSt to L (i + d)).2 % 2 = 1) := fun z => by
      have := (ev_bit i1 h0).mp z
      rw [h2 _ (by omega) (by omega)] at this
      cases this
    have ev : evV to L (i + d) = come + d := by
      unfold evV
      rw [if_neg nb, i1]
    refine ⟨?_, fun t ht => ?_⟩
    · have f := evSt_fst to L (i + d)
      have s := evSt_snd to L (i + d)
      rw [if_neg nb, i1] at f
      rw [ev] at s
      exact Prod.ext f (by show (evSt to L (i + d + 1)).2 = come + ((d + 1 : Nat) : Int); rw [s]; omega)
    · rcases Nat.lt_or_ge t (i + d) with q | q
      · exact i2 t q
      · rw [show t = i + d by omega]
        refine ⟨by omega, ?_, by rw [ev]; omega⟩
        rw [i1]
        show come + (d : Int) < n
        omega
theorem ev_rn {n : Int} {to : Int → Int} {L : Int} (hn : 0 ≤ n ∧ n ≤ 24) (ht : toP n to) (l : Nat) : ∀ (i : Nat) (come rem : Int), evSt to L i = (rem, come) → (∀ t, t < i → evAlive n to L t) → (0 ≤ come ∧ come ≤ n) → (0 ≤ rem ∧ rem < p2 n) → popc rem ≤ (l : Int) → i + 24 * (l + 1) ≤ 200 → ((rnS n to l come rem).1 = -1 ∧ ∃ k, evEnd n to L k ∧ ¬ evOut n to L k = 0) ∨ (¬ (rnS n to l come rem).1 = -1 ∧ evEnd n to L (i + (rnS n to l come rem).1.toNat) ∧ evOut n to L (i + (rnS n to l come rem).1.toNat) = 0) := by
  have toEnd : ∀ (l i : Nat) (come rem : Int), evSt to L i = (rem, come) → (∀ t, t < i → evAlive n to L t) → (0 ≤ come ∧ come ≤ n) → 0 ≤ rem → i + 24 ≤ 200 → fb n rem come = -1 → (∀ j, come ≤ j → j < n → tb rem j = false) → (¬ (rnS n to l come rem).1 = -1 ∧ evEnd n to L (i + (rnS n to l come rem).1.toNat) ∧ evOut n to L (i + (rnS n to l come rem).1.toNat) = 0) := by
    intro l i come rem hs ha hc h0 hi h1 h2
    rw [rnS_none h1]
    have w := ev_walk hs ha h0 hc.1 (n - come).toNat (by omega) (fun j a b => h2 j a (by omega)) (by omega)
    have e2 : (evSt to L (i + (n - come).toNat)).2 = n := by
      rw [w.1]
      show come + (((n - come).toNat : Nat) : Int) = n
      omega
    refine ⟨by show ¬ n - come = -1; omega, ⟨w.2, fun z => ?_⟩, ?_⟩
    · have z2 : (evSt to L (i + (n - come).toNat)).2 < n := z.2.1
      omega
    · unfold evOut
      have e3 : (evSt to L (i + ((n - come, (0 : Int)) : Int × Int).1.toNat)).2 = n := e2
      rw [if_pos (by omega)]
  induction l with
  | zero =>
    intro i come rem hs ha hc hr hp hi
    have z : ∀ j, come ≤ j → j < n → tb rem j = false := fun j a b => popc_zero hr.1 (by omega) (by omega) (by omega)
    exact Or.inr (toEnd 0 i come rem hs ha hc hr.1 (by omega) (fb_none hc z) z)
  | succ l ih =>
    intro i come rem hs ha hc hr hp hi
    rcases fb_spec (rem := rem) hc with ⟨h1, h2⟩ | ⟨h1, h2, h3⟩
    · exact Or.inr (toEnd (l + 1) i come rem hs ha hc hr.1 (by omega) h1 h2)
    · generalize hj : fb n rem come = j at *
      have w := ev_walk hs ha hr.1 hc.1 (j - come).toNat (by omega) (fun j' a b => h3 j' a (by omega)) (by omega)
      have ej : come + (((j - come).toNat : Nat) : Int) = j := by omega
      rw [ej] at w
      have bt := (ev_bit w.1 hr.1).mpr h2
      have ev : evV to L (i + (j - come).toNat) = to j := by
        unfold evV
        rw [if_pos bt, w.1]
      have e2 : (evSt to L (i + (j - come).toNat)).2 = j := by rw [w.1]
      by_cases c : to j = -1
      · left
        refine ⟨congrArg Prod.fst (rnS_stop (l := l) (by rw [hj]; omega) (by rw [hj]; exact c)), i + (j - come).toNat, ⟨w.2, fun z => z.2.2 (by rw [ev]; exact c)⟩, ?_⟩
        unfold evOut
        rw [if_neg (by omega), if_neg (by omega)]
        decide
      · have tj := ht j (by omega) h1.2
        have sb := tb_sub hr.1 (show 0 ≤ j by omega) h2
        have ps := popc_sub hr.1 (show 0 ≤ j by omega) (by omega) h2
        have go := rnS_go (l := l) (to := to) hj (by omega) c
        have st : evSt to L (i + (j - come).toNat + 1) = (rem - p2 j, to j + 1) := by
          have f := evSt_fst to L (i + (j - come).toNat)
          have s := evSt_snd to L (i + (j - come).toNat)
          rw [if_pos bt, w.1] at f
          rw [ev] at s
          exact Prod.ext f s
        have al : ∀ t, t < i + (j - come).toNat + 1 → evAlive n to L t := fun t q => by
          rcases Nat.lt_or_ge t (i + (j - come).toNat) with q2 | q2
          · exact w.2 t q2
          · rw [show t = i + (j - come).toNat by omega]
            exact ⟨by omega, by omega, by rw [ev]; exact c⟩
        have r := ih (i + (j - come).toNat + 1) (to j + 1) (rem - p2 j) st al (by omega) (by omega) (by omega) (by omega)
        have ok := rnS_ok hn ht l (to j + 1) (rem - p2 j) (by omega) (by omega)
        rcases r with ⟨r1, r2⟩ | ⟨r1, r2, r3⟩
        · rw [if_pos r1] at go
          rw [go]
          exact Or.inl ⟨rfl, r2⟩
        · rw [if_neg r1] at go
          rw [go]
          have e : i + (j - come + 1 + (rnS n to l (to j + 1) (rem - p2 j)).1).toNat = i + (j - come).toNat + 1 + (rnS n to l (to j + 1) (rem - p2 j)).1.toNat := by omega
          refine Or.inr ⟨by show ¬ j - come + 1 + (rnS n to l (to j + 1) (rem - p2 j)).1 = -1; omega, ?_, ?_⟩
          · show evEnd n to L (i + (j - come + 1 + (rnS n to l (to j + 1) (rem - p2 j)).1).toNat)
            rw [e]
            exact r2
          · show evOut n to L (i + (j - come + 1 + (rnS n to l (to j + 1) (rem - p2 j)).1).toNat) = 0
            rw [e]
            exact r3
/-- an evening of M tells what rnS tells -/
theorem ev_told {mem m : mmM} {L : Int} {k : Nat} (hp : playM mem) (h : evMP mem L m) (hL : 0 ≤ L ∧ L < p2 (mem 65 27)) (hk : popc L ≤ (k : Int)) (h4 : k ≤ 4) : ((rnS (mem 65 27) (leapM mem) k 0 L).1 = -1 ∧ ¬ m 65 37 = 0) ∨ (¬ (rnS (mem 65 27) (leapM mem) k 0 L).1 = -1 ∧ m 65 37 = 0 ∧ m 65 36 = (rnS (mem 65 27) (leapM mem) k 0 L).1) := by
  obtain ⟨q, h1, h2, h3, -⟩ := h
  have hn := hp.1
  have ht : toP (mem 65 27) (leapM mem) := fun i a b => leapM_bnd ⟨a, b⟩
  have r := ev_rn (L := L) hn ht k 0 0 L rfl (fun t z => by omega) (by omega) hL hk (by omega)
  have ok := rnS_ok hn ht k 0 L (by omega) hL
  rcases r with ⟨r1, k', r2, r3⟩ | ⟨r1, r2, r3⟩
  · have e := evEnd_unique h1 r2
    left
    refine ⟨r1, ?_⟩
    rw [h3, e]
    exact r3
  · have e := evEnd_unique h1 r2
    right
    refine ⟨r1, by rw [h3, e]; exact r3, ?_⟩
    rw [h2.2.2.1, e]
    omega
/-! ## the sets that M goes through -/
def setQ (n a b c d : Int) : Int := and32 (or32 (or32 (or32 (shl32 1 a) (shl32 1 b)) (shl32 1 c)) (shl32 1 d)) (shl32 1 n - 1)
theorem setQ_tb {n a b c d : Int} (hn : 0 ≤ n ∧ n ≤ 24) (ha : 0 ≤ a ∧ a ≤ n) (hb : 0 ≤ b ∧ b ≤ n) (hc : 0 ≤ c ∧ c ≤ n) (hd : 0 ≤ d ∧ d ≤ n) : (0 ≤ setQ n a b c d ∧ setQ n a b c d < p2 n) ∧ ∀ j, 0 ≤ j → (tb (setQ n a b c d) j = true ↔ (j < n ∧ (a = j ∨ b = j ∨ c = j ∨ d = j))) := by
  have e25 : p2 25 = 33554432 := by decide +kernel
  have q : ∀ k, 0 ≤ k ∧ k ≤ n → shl32 1 k = p2 k ∧ 0 < p2 k ∧ p2 k < p2 25 := fun k hk => ⟨shl1_eq hk.1 (by omega), p2_pos k, by have := p2_lt (i := k) (j := 25) hk.1 (by omega); have := p2_pos k; omega⟩
  have qa := q a ha
  have qb := q b hb
  have qc := q c hc
  have qd := q d hd
  have qn := q n ⟨hn.1, Int.le_refl _⟩
  unfold setQ
  rw [qa.1, qb.1, qc.1, qd.1, qn.1]
  have o1 := or32_b (x := p2 a) (y := p2 b) (b := 25) (by omega) qa.2.2 (by omega) qb.2.2 (by decide)
  have o2 := or32_b (x := or32 (p2 a) (p2 b)) (y := p2 c) (b := 25) o1.1.1 o1.1.2 (by omega) qc.2.2 (by decide)
  have o3 := or32_b (x := or32 (or32 (p2 a) (p2 b)) (p2 c)) (y := p2 d) (b := 25) o2.1.1 o2.1.2 (by omega) qd.2.2 (by decide)
  generalize hX : or32 (or32 (or32 (p2 a) (p2 b)) (p2 c)) (p2 d) = X at *
  have en : (p2 n - 1).toNat = 2 ^ n.toNat - 1 := by
    unfold p2
    omega
  have e := and32_tn (x := X) (y := p2 n - 1) o3.1.1 (by omega) (by omega) (by omega)
  rw [en, Nat.and_two_pow_sub_one_eq_mod] at e
  rw [e]
  have hlt : X.toNat % 2 ^ n.toNat < 2 ^ n.toNat := Nat.mod_lt _ (Nat.pow_pos (by decide))
  refine ⟨⟨by omega, by unfold p2; omega⟩, fun j j0 => ?_⟩
  have t : tb ((X.toNat % 2 ^ n.toNat : Nat) : Int) j = (decide (j < n) && tb X j) := by
    unfold tb
    rw [Int.toNat_natCast, Nat.testBit_mod_two_pow]
    congr 1
    by_cases z : j < n
    · rw [decide_eq_true z, decide_eq_true (by omega)]
    · rw [decide_eq_false z, decide_eq_false (by omega)]
  rw [t, o3.2, o2.2, o1.2, tb_p2 ha.1 j0, tb_p2 hb.1 j0, tb_p2 hc.1 j0, tb_p2 hd.1 j0]
  simp only [Bool.and_eq_true, Bool.or_eq_true, decide_eq_true_iff, or_assoc]
def lowQ (n a : Int) : Int := if a = n then n else a + 1
/-- each set of no more than four is met -/
theorem setQ_all {n L : Int} (hn : 0 ≤ n ∧ n ≤ 24) (hL : 0 ≤ L ∧ L < p2 n) (h4 : popc L ≤ 4) : ∃ a b c d, (0 ≤ a ∧ a ≤ n) ∧ (lowQ n a ≤ b ∧ b ≤ n) ∧ (lowQ n b ≤ c ∧ c ≤ n) ∧ (lowQ n c ≤ d ∧ d ≤ n) ∧ L = setQ n a b c d := by
  -- the first bit from lo on, and what is left
  have one : ∀ (X lo : Int) (p : Nat), (0 ≤ X ∧ X < p2 n) → (0 ≤ lo ∧ lo ≤ n) → (∀ j, 0 ≤ j → j < lo → tb X j = false) → popc X ≤ ((p + 1 : Nat) : Int) → ∃ a Y, (lo ≤ a ∧ a ≤ n) ∧ (0 ≤ Y ∧ Y < p2 n) ∧ (∀ j, 0 ≤ j → j < lowQ n a → tb Y j = false) ∧ popc Y ≤ (p : Int) ∧ (∀ j, 0 ≤ j → j < n → (tb X j = true ↔ (a = j ∨ tb Y j = true))) := by
    intro X lo p hX hlo hno hp
    rcases fb_spec (n := n) (rem := X) (come := lo) hlo with ⟨h1, h2⟩ | ⟨h1, h2, h3⟩
    · have z : ∀ j, 0 ≤ j → j < n → tb X j = false := fun j a b => by
        rcases Int.lt_or_le j lo with q | q
        · exact hno j a q
        · exact h2 j q b
      have e : X = 0 := tb_ext hX.1 (Int.le_refl 0) (fun j j0 => by
        rw [tb_0]
        rcases Int.lt_or_le j n with q | q
        · exact z j j0 q
        · exact tb_big hX.1 hX.2 q)
      have p0 : popc 0 = 0 := by decide +kernel
      refine ⟨n, X, by omega, hX, fun j j0 _ => by rw [e]; exact tb_0 j, by rw [e, p0]; omega, fun j j0 j1 => ?_⟩
      constructor
      · exact fun h => Or.inr h
      · rintro (h | h)
        · omega
        · exact h
    · generalize hj : fb n X lo = j at *
      have sb := tb_sub hX.1 (show 0 ≤ j by omega) h2
      have ps := popc_sub hX.1 (show 0 ≤ j by omega) (by omega) h2
      refine ⟨j, X - p2 j, by omega, by omega, fun i i0 i1 => ?_, by omega, fun i i0 i1 => ?_⟩
      · unfold lowQ at i1
        rw [if_neg (by omega)] at i1
        rw [sb.2 i i0]
        by_cases q : j = i
        · rw [decide_eq_true q]
          simp
        · have : tb X i = false := by
            rcases Int.lt_or_le i lo with q2 | q2
            · exact hno i i0 q2
            · exact h3 i q2 (by omega)
          rw [this]
          rfl
      · rw [sb.2 i i0]
        constructor
        · intro h
          by_cases q : j = i
          · exact Or.inl q
          · right
            rw [h, decide_eq_false q]
            rfl
        · rintro (h | h)
          · rw [← h]
            exact h2
          · rw [Bool.and_eq_true] at h
            exact h.1
  have lb : ∀ a, 0 ≤ a → a ≤ n → 0 ≤ lowQ n a ∧ lowQ n a ≤ n := by
    intro a a0 a1
    unfold lowQ
    split <;> omega
  obtain ⟨a, Y1, a1, a2, a3, a4, a5⟩ := one L 0 3 hL (by omega) (fun j _ _ => by omega) (by omega)
  have la := lb a (by omega) a1.2
  obtain ⟨b, Y2, b1, b2, b3, b4, b5⟩ := one Y1 (lowQ n a) 2 a2 la a3 a4
  have lb' := lb b (by omega) b1.2
  obtain ⟨c, Y3, c1, c2, c3, c4, c5⟩ := one Y2 (lowQ n b) 1 b2 lb' b3 b4
  have lc := lb c (by omega) c1.2
  obtain ⟨d, Y4, d1, d2, d3, d4, d5⟩ := one Y3 (lowQ n c) 0 c2 lc c3 c4
  have ld := lb d (by omega) d1.2
  refine ⟨a, b, c, d, by omega, by omega, by omega, by omega, ?_⟩
  have q := setQ_tb (a := a) (b := b) (c := c) (d := d) hn (by omega) (by omega) (by omega) (by omega)
  refine tb_ext hL.1 q.1.1 (fun j j0 => ?_)
  have iff : tb L j = true ↔ tb (setQ n a b c d) j = true := by
    rw [q.2 j j0]
    constructor
    · intro h
      have hjn : j < n := by
        rcases Int.lt_or_le j n with z | z
        · exact z
        · rw [tb_big hL.1 hL.2 z] at h
          cases h
      refine ⟨hjn, ?_⟩
      rcases (a5 j j0 hjn).mp h with z | z
      · exact Or.inl z
      · rcases (b5 j j0 hjn).mp z with z | z
        · exact Or.inr (Or.inl z)
        · rcases (c5 j j0 hjn).mp z with z | z
          · exact Or.inr (Or.inr (Or.inl z))
          · rcases (d5 j j0 hjn).mp z with z | z
            · exact Or.inr (Or.inr (Or.inr z))
            · rw [popc_zero d2.1 (by omega) j0 (by omega)] at z
              cases z
    · rintro ⟨hjn, h⟩
      rw [a5 j j0 hjn, b5 j j0 hjn, c5 j j0 hjn, d5 j j0 hjn]
      rcases h with h | h | h | h
      · exact Or.inl h
      · exact Or.inr (Or.inl h)
      · exact Or.inr (Or.inr (Or.inl h))
      · exact Or.inr (Or.inr (Or.inr (Or.inl h)))
  cases z : tb L j
  · cases z2 : tb (setQ n a b c d) j
    · rfl
    · rw [iff.mpr z2] at z
      cases z
  · exact (iff.mp z).symm
def gtFr (mem m : mmM) : Prop := (∀ a, a ≠ 65 → a ≠ 86 → m a = mem a) ∧ ∀ j, (j < 36 ∨ 39 < j) → m 65 j = mem 65 j
theorem gtFr.trans {m0 m1 m2 : mmM} (h : gtFr m0 m1) (h' : gtFr m1 m2) : gtFr m0 m2 := ⟨fun a a1 a2 => (h'.1 a a1 a2).trans (h.1 a a1 a2), fun j hj => (h'.2 j hj).trans (h.2 j hj)⟩
theorem gtFr.play {mem m : mmM} (h : gtFr mem m) (hp : playM mem) : playM m ∧ m 65 27 = mem 65 27 ∧ leapM m = leapM mem := by
  have e27 := h.2 27 (by omega)
  have e79 := h.1 79 (by decide) (by decide)
  have e80 := h.1 80 (by decide) (by decide)
  exact ⟨playM_congr hp e27 e79 e80 (h.1 81 (by decide) (by decide)), e27, leapM_congr e27 e79 e80 (h.1 83 (by decide) (by decide))⟩
/-- the best so far of the sets D -/
def mInv (n : Int) (to : Int → Int) (k : Nat) (long x3 x4 : Int) (D : Int → Prop) : Prop :=
  (x3 = -1 ∧ ∀ L, D L → (0 ≤ L ∧ L < p2 n) → popc L ≤ (k : Int) → (rnS n to k 0 L).1 = -1) ∨
  (((0 ≤ x3 ∧ x3 < p2 n) ∧ popc x3 ≤ (k : Int) ∧ ¬ (rnS n to k 0 x3).1 = -1 ∧ x4 = (rnS n to k 0 x3).1) ∧ ∀ L, D L → (0 ≤ L ∧ L < p2 n) → popc L ≤ (k : Int) → ¬ (rnS n to k 0 L).1 = -1 → leqE long (x4, x3) ((rnS n to k 0 L).1, L))
theorem mInv_less {n : Int} {to : Int → Int} {k : Nat} {long x3 x4 : Int} {D D' : Int → Prop} (h : mInv n to k long x3 x4 D) (hD : ∀ L, D' L → D L) : mInv n to k long x3 x4 D' :=
  h.imp (fun z => ⟨z.1, fun L d => z.2 L (hD L d)⟩) (fun z => ⟨z.1, fun L d => z.2 L (hD L d)⟩)
theorem mInv_same {n : Int} {to : Int → Int} {k : Nat} {long x3 x4 S : Int} {D : Int → Prop} (h : mInv n to k long x3 x4 D) (hS : (0 ≤ S ∧ S < p2 n) → popc S ≤ (k : Int) → (rnS n to k 0 S).1 = -1 ∨ (¬ x3 = -1 ∧ leqE long (x4, x3) ((rnS n to k 0 S).1, S))) : mInv n to k long x3 x4 (fun L => D L ∨ L = S) := by
  rcases h with ⟨h1, h2⟩ | ⟨h1, h2⟩
  · refine Or.inl ⟨h1, fun L d a b => ?_⟩
    rcases d with d | d
    · exact h2 L d a b
    · rw [d] at a b ⊢
      rcases hS a b with z | z
      · exact z
      · exact absurd h1 z.1
  · refine Or.inr ⟨h1, fun L d a b c => ?_⟩
    rcases d with d | d
    · exact h2 L d a b c
    · rw [d] at a b c ⊢
      rcases hS a b with z | z
      · exact absurd z c
      · exact z.2
theorem mInv_new {n : Int} {to : Int → Int} {k : Nat} {long x3 x4 S : Int} {D : Int → Prop} (h : mInv n to k long x3 x4 D) (hS : (0 ≤ S ∧ S < p2 n) ∧ popc S ≤ (k : Int) ∧ ¬ (rnS n to k 0 S).1 = -1) (hb : ¬ x3 = -1 → leqE long ((rnS n to k 0 S).1, S) (x4, x3)) : mInv n to k long S (rnS n to k 0 S).1 (fun L => D L ∨ L = S) := by
  refine Or.inr ⟨⟨hS.1, hS.2.1, hS.2.2, rfl⟩, fun L d a b c => ?_⟩
  rcases d with d | d
  · rcases h with ⟨h1, h2⟩ | ⟨h1, h2⟩
    · exact absurd (h2 L d a b) c
    · exact leqE_trans (hb (by omega)) (h2 L d a b c)
  · rw [d]
    exact leqE_refl _ _
def lossP (n : Int) (to : Int → Int) (x1 long v : Int) : Prop := (0 ≤ v ∧ v < p2 n) ∧ popc v ≤ x1 ∧ ¬ (rnS n to x1.toNat 0 v).1 = -1 ∧ ∀ L, (0 ≤ L ∧ L < p2 n) → popc L ≤ x1 → ¬ (rnS n to x1.toNat 0 L).1 = -1 → leqE long ((rnS n to x1.toNat 0 v).1, v) ((rnS n to x1.toNat 0 L).1, L)
theorem popc_mono {a b : Int} (ha : 0 ≤ a) (hb : 0 ≤ b) (h : ∀ i, 0 ≤ i → tb a i = true → tb b i = true) : popc a ≤ popc b := by
  rw [popc_tb ha, popc_tb hb]
  refine sumTo_mono (fun i i0 i1 => ?_)
  show b2i (tb a i = true) ≤ b2i (tb b i = true)
  by_cases q : tb a i = true
  · rw [b2i_1 q, b2i_1 (h i i0 q)]
    exact Int.le_refl _
  · rw [b2i_0 q]
    exact (b2i_rng _).1
theorem lossP_ext {n : Int} {to : Int → Int} {x1 long v : Int} (hn : 0 ≤ n ∧ n ≤ 24) (ht : toP n to) (h1 : 0 ≤ x1 ∧ x1 ≤ 4) (h : lossP n to x1 long v) : extP n to x1.toNat long ((rnS n to x1.toNat 0 v).1, v) := by
  obtain ⟨h2, h3, h4, h5⟩ := h
  have sub : ∀ L, (0 ≤ L ∧ L < p2 n) → popc L ≤ x1 → ¬ (rnS n to x1.toNat 0 L).1 = -1 → (0 ≤ (rnS n to x1.toNat 0 L).2 ∧ (rnS n to x1.toNat 0 L).2 < p2 n) ∧ popc (rnS n to x1.toNat 0 L).2 ≤ x1 ∧ rnS n to x1.toNat 0 (rnS n to x1.toNat 0 L).2 = rnS n to x1.toNat 0 L ∧ (rnS n to x1.toNat 0 L).2 ≤ L := by
    intro L hL hq hne
    rcases rnS_ok hn ht x1.toNat 0 L (by omega) hL with o | ⟨-, o2, o3, o4⟩
    · exact absurd o hne
    · have := popc_mono o2.1 hL.1 o3
      exact ⟨by omega, by omega, o4, o2.2⟩
  have sv := sub v h2 h3 h4
  have tight : (rnS n to x1.toNat 0 v).2 = v := by
    have l := h5 _ sv.1 sv.2.1 (by rw [sv.2.2.1]; exact h4)
    rw [sv.2.2.1] at l
    have := sv.2.2.2
    unfold leqE at l
    simp only at l
    by_cases q : long = 0
    · rw [if_pos q] at l
      omega
    · rw [if_neg q] at l
      omega
  refine ⟨⟨v, h2, fun i _ _ => tb_0 i, by omega, h4, by show (rnS n to x1.toNat 0 v).1 = 0 + _; omega, by show v = 0 + (rnS n to x1.toNat 0 v).2; omega⟩, ?_⟩
  rintro x y ⟨rem, r1, -, r3, r4, r5, r6⟩
  have sr := sub rem r1 (by omega) r4
  have l := h5 _ sr.1 sr.2.1 (by rw [sr.2.2.1]; exact r4)
  rw [sr.2.2.1] at l
  rw [show x = (rnS n to x1.toNat 0 rem).1 by omega, show y = (rnS n to x1.toNat 0 rem).2 by omega]
  exact l