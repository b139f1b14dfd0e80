/-! evenings with few losses, of M -/
theorem ev_bit {to : Int → Int} {L : Int} {i : Nat} {rem come : Int} (hs : evSt to L i = (rem, come)) (h0 : 0 ≤ rem) : ((evSt to L i).1 / p2 (evSt to L i).2 % 2 = 1) ↔ tb rem come = true := by
  rw [hs]
  exact bitS_tb h0
theorem ev_walk {n : Int} {to : Int → Int} {L : Int} {i : Nat} {rem come : Int} (hs : evSt to L i = (rem, come)) (ha : ∀ t, t < i → evAlive n to L t) (h0 : 0 ≤ rem) (hc : 0 ≤ come) : ∀ d : Nat, come + d ≤ n → (∀ j, come ≤ j → j < come + d → tb rem j = false) → i + d ≤ 200 → evSt to L (i + d) = (rem, come + d) ∧ ∀ t, t < i + d → evAlive n to L t := by
  intro d
  induction d with
  | zero =>
    intro _ _ _
    refine ⟨?_, ha⟩
    show evSt to L i = (rem, come + ((0 : Nat) : Int))
    rw [hs, show come + ((0 : Nat) : Int) = come by omega]
  | succ d ih =>
    intro h1 h2 h3
    obtain ⟨i1, i2⟩ := ih (by omega) (fun j a b => h2 j a (by omega)) (by omega)
    have nb : ¬ ((evSt to L (i + d)).1 / p2 (evSt to L (i + d)).2 % 2 = 1) := fun z => by
      have := (ev_bit i1 h0).mp z
      rw [h2 _ (by omega) (by omega)] at this
      cases this
    have ev : evV to L (i + d) = come + d := by
      unfold evV
      rw [if_neg nb, i1]
    refine ⟨?_, fun t ht => ?_⟩
    · have f := evSt_fst to L (i + d)
      have s := evSt_snd to L (i + d)
      rw [if_neg nb, i1] at f
      rw [ev] at s
      exact Prod.ext f (by show (evSt to L (i + d + 1)).2 = come + ((d + 1 : Nat) : Int); rw [s]; omega)
    · rcases Nat.lt_or_ge t (i + d) with q | q
      · exact i2 t q
      · rw [show t = i + d by omega]
        refine ⟨by omega, ?_, by rw [ev]; omega⟩
        rw [i1]
        show come + (d : Int) < n
        omega
theorem ev_rn {n : Int} {to : Int → Int} {L : Int} (hn : 0 ≤ n ∧ n ≤ 24) (ht : toP n to) (l : Nat) : ∀ (i : Nat) (come rem : Int), evSt to L i = (rem, come) → (∀ t, t < i → evAlive n to L t) → (0 ≤ come ∧ come ≤ n) → (0 ≤ rem ∧ rem < p2 n) → popc rem ≤ (l : Int) → i + 24 * (l + 1) ≤ 200 → ((rnS n to l come rem).1 = -1 ∧ ∃ k, evEnd n to L k ∧ ¬ evOut n to L k = 0) ∨ (¬ (rnS n to l come rem).1 = -1 ∧ evEnd n to L (i + (rnS n to l come rem).1.toNat) ∧ evOut n to L (i + (rnS n to l come rem).1.toNat) = 0) := by
  have toEnd : ∀ (l i : Nat) (come rem : Int), evSt to L i = (rem, come) → (∀ t, t < i → evAlive n to L t) → (0 ≤ come ∧ come ≤ n) → 0 ≤ rem → i + 24 ≤ 200 → fb n rem come = -1 → (∀ j, come ≤ j → j < n → tb rem j = false) → (¬ (rnS n to l come rem).1 = -1 ∧ evEnd n to L (i + (rnS n to l come rem).1.toNat) ∧ evOut n to L (i + (rnS n to l come rem).1.toNat) = 0) := by
    intro l i come rem hs ha hc h0 hi h1 h2
    rw [rnS_none h1]
    have w := ev_walk hs ha h0 hc.1 (n - come).toNat (by omega) (fun j a b => h2 j a (by omega)) (by omega)
    have e2 : (evSt to L (i + (n - come).toNat)).2 = n := by
      rw [w.1]
      show come + (((n - come).toNat : Nat) : Int) = n
      omega
    refine ⟨by show ¬ n - come = -1; omega, ⟨w.2, fun z => ?_⟩, ?_⟩
    · have z2 : (evSt to L (i + (n - come).toNat)).2 < n := z.2.1
      omega
    · unfold evOut
      have e3 : (evSt to L (i + ((n - come, (0 : Int)) : Int × Int).1.toNat)).2 = n := e2
      rw [if_pos (by omega)]
  induction l with
  | zero =>
    intro i come rem hs ha hc hr hp hi
    have z : ∀ j, come ≤ j → j < n → tb rem j = false := fun j a b => popc_zero hr.1 (by omega) (by omega) (by omega)
    exact Or.inr (toEnd 0 i come rem hs ha hc hr.1 (by omega) (fb_none hc z) z)
  | succ l ih =>
    intro i come rem hs ha hc hr hp hi
    rcases fb_spec (rem := rem) hc with ⟨h1, h2⟩ | ⟨h1, h2, h3⟩
    · exact Or.inr (toEnd (l + 1) i come rem hs ha hc hr.1 (by omega) h1 h2)
    · generalize hj : fb n rem come = j at *
      have w := ev_walk hs ha hr.1 hc.1 (j - come).toNat (by omega) (fun j' a b => h3 j' a (by omega)) (by omega)
      have ej : come + (((j - come).toNat : Nat) : Int) = j := by omega
      rw [ej] at w
      have bt := (ev_bit w.1 hr.1).mpr h2
      have ev : evV to L (i + (j - come).toNat) = to j := by
        unfold evV
        rw [if_pos bt, w.1]
      have e2 : (evSt to L (i + (j - come).toNat)).2 = j := by rw [w.1]
      by_cases c : to j = -1
      · left
        refine ⟨congrArg Prod.fst (rnS_stop (l := l) (by rw [hj]; omega) (by rw [hj]; exact c)), i + (j - come).toNat, ⟨w.2, fun z => z.2.2 (by rw [ev]; exact c)⟩, ?_⟩
        unfold evOut
        rw [if_neg (by omega), if_neg (by omega)]
        decide
      · have tj := ht j (by omega) h1.2
        have sb := tb_sub hr.1 (show 0 ≤ j by omega) h2
        have ps := popc_sub hr.1 (show 0 ≤ j by omega) (by omega) h2
        have go := rnS_go (l := l) (to := to) hj (by omega) c
        have st : evSt to L (i + (j - come).toNat + 1) = (rem - p2 j, to j + 1) := by
          have f := evSt_fst to L (i + (j - come).toNat)
          have s := evSt_snd to L (i + (j - come).toNat)
          rw [if_pos bt, w.1] at f
          rw [ev] at s
          exact Prod.ext f s
        have al : ∀ t, t < i + (j - come).toNat + 1 → evAlive n to L t := fun t q => by
          rcases Nat.lt_or_ge t (i + (j - come).toNat) with q2 | q2
          · exact w.2 t q2
          · rw [show t = i + (j - come).toNat by omega]
            exact ⟨by omega, by omega, by rw [ev]; exact c⟩
        have r := ih (i + (j - come).toNat + 1) (to j + 1) (rem - p2 j) st al (by omega) (by omega) (by omega) (by omega)
        have ok := rnS_ok hn ht l (to j + 1) (rem - p2 j) (by omega) (by omega)
        rcases r with ⟨r1, r2⟩ | ⟨r1, r2, r3⟩
        · rw [if_pos r1] at go
          rw [go]
          exact Or.inl ⟨rfl, r2⟩
        · rw [if_neg r1] at go
          rw [go]
          have e : i + (j - come + 1 + (rnS n to l (to j + 1) (rem - p2 j)).1).toNat = i + (j - come).toNat + 1 + (rnS n to l (to j + 1) (rem - p2 j)).1.toNat := by omega
          refine Or.inr ⟨by show ¬ j - come + 1 + (rnS n to l (to j + 1) (rem - p2 j)).1 = -1; omega, ?_, ?_⟩
          · show evEnd n to L (i + (j - come + 1 + (rnS n to l (to j + 1) (rem - p2 j)).1).toNat)
            rw [e]
            exact r2
          · show evOut n to L (i + (j - come + 1 + (rnS n to l (to j + 1) (rem - p2 j)).1).toNat) = 0
            rw [e]
            exact r3
/-- an evening of M tells what rnS tells -/
theorem ev_told {mem m : mmM} {L : Int} {k : Nat} (hp : playM mem) (h : evMP mem L m) (hL : 0 ≤ L ∧ L < p2 (mem 65 27)) (hk : popc L ≤ (k : Int)) (h4 : k ≤ 4) : ((rnS (mem 65 27) (leapM mem) k 0 L).1 = -1 ∧ ¬ m 65 37 = 0) ∨ (¬ (rnS (mem 65 27) (leapM mem) k 0 L).1 = -1 ∧ m 65 37 = 0 ∧ m 65 36 = (rnS (mem 65 27) (leapM mem) k 0 L).1) := by
  obtain ⟨q, h1, h2, h3, -⟩ := h
  have hn := hp.1
  have ht : toP (mem 65 27) (leapM mem) := fun i a b => leapM_bnd ⟨a, b⟩
  have r := ev_rn (L := L) hn ht k 0 0 L rfl (fun t z => by omega) (by omega) hL hk (by omega)
  have ok := rnS_ok hn ht k 0 L (by omega) hL
  rcases r with ⟨r1, k', r2, r3⟩ | ⟨r1, r2, r3⟩
  · have e := evEnd_unique h1 r2
    left
    refine ⟨r1, ?_⟩
    rw [h3, e]
    exact r3
  · have e := evEnd_unique h1 r2
    right
    refine ⟨r1, by rw [h3, e]; exact r3, ?_⟩
    rw [h2.2.2.1, e]
    omega
/-! ## the sets that M goes through -/
def setQ (n a b c d : Int) : Int := and32 (or32 (or32 (or32 (shl32 1 a) (shl32 1 b)) (shl32 1 c)) (shl32 1 d)) (shl32 1 n - 1)
theorem setQ_tb {n a b c d : Int} (hn : 0 ≤ n ∧ n ≤ 24) (ha : 0 ≤ a ∧ a ≤ n) (hb : 0 ≤ b ∧ b ≤ n) (hc : 0 ≤ c ∧ c ≤ n) (hd : 0 ≤ d ∧ d ≤ n) : (0 ≤ setQ n a b c d ∧ setQ n a b c d < p2 n) ∧ ∀ j, 0 ≤ j → (tb (setQ n a b c d) j = true ↔ (j < n ∧ (a = j ∨ b = j ∨ c = j ∨ d = j))) := by
  have e25 : p2 25 = 33554432 := by decide +kernel
  have q : ∀ k, 0 ≤ k ∧ k ≤ n → shl32 1 k = p2 k ∧ 0 < p2 k ∧ p2 k < p2 25 := fun k hk => ⟨shl1_eq hk.1 (by omega), p2_pos k, by have := p2_lt (i := k) (j := 25) hk.1 (by omega); have := p2_pos k; omega⟩
  have qa := q a ha
  have qb := q b hb
  have qc := q c hc
  have qd := q d hd
  have qn := q n ⟨hn.1, Int.le_refl _⟩
  unfold setQ
  rw [qa.1, qb.1, qc.1, qd.1, qn.1]
  have o1 := or32_b (x := p2 a) (y := p2 b) (b := 25) (by omega) qa.2.2 (by omega) qb.2.2 (by decide)
  have o2 := or32_b (x := or32 (p2 a) (p2 b)) (y := p2 c) (b := 25) o1.1.1 o1.1.2 (by omega) qc.2.2 (by decide)
  have o3 := or32_b (x := or32 (or32 (p2 a) (p2 b)) (p2 c)) (y := p2 d) (b := 25) o2.1.1 o2.1.2 (by omega) qd.2.2 (by decide)
  generalize hX : or32 (or32 (or32 (p2 a) (p2 b)) (p2 c)) (p2 d) = X at *
  have en : (p2 n - 1).toNat = 2 ^ n.toNat - 1 := by
    unfold p2
    omega
  have e := and32_tn (x := X) (y := p2 n - 1) o3.1.1 (by omega) (by omega) (by omega)
  rw [en, Nat.and_two_pow_sub_one_eq_mod] at e
  rw [e]
  have hlt : X.toNat % 2 ^ n.toNat < 2 ^ n.toNat := Nat.mod_lt _ (Nat.pow_pos (by decide))
  refine ⟨⟨by omega, by unfold p2; omega⟩, fun j j0 => ?_⟩
  have t : tb ((X.toNat % 2 ^ n.toNat : Nat) : Int) j = (decide (j < n) && tb X j) := by
    unfold tb
    rw [Int.toNat_natCast, Nat.testBit_mod_two_pow]
    congr 1
    by_cases z : j < n
    · rw [decide_eq_true z, decide_eq_true (by omega)]
    · rw [decide_eq_false z, decide_eq_false (by omega)]
  rw [t, o3.2, o2.2, o1.2, tb_p2 ha.1 j0, tb_p2 hb.1 j0, tb_p2 hc.1 j0, tb_p2 hd.1 j0]
  simp only [Bool.and_eq_true, Bool.or_eq_true, decide_eq_true_iff, or_assoc]
def lowQ (n a : Int) : Int := if a = n then n else a + 1
/-- each set of no more than four is met -/
theorem setQ_all {n L : Int} (hn : 0 ≤ n ∧ n ≤ 24) (hL : 0 ≤ L ∧ L < p2 n) (h4 : popc L ≤ 4) : ∃ a b c d, (0 ≤ a ∧ a ≤ n) ∧ (lowQ n a ≤ b ∧ b ≤ n) ∧ (lowQ n b ≤ c ∧ c ≤ n) ∧ (lowQ n c ≤ d ∧ d ≤ n) ∧ L = setQ n a b c d := by
  -- the first bit from lo on, and what is left
  have one : ∀ (X lo : Int) (p : Nat), (0 ≤ X ∧ X < p2 n) → (0 ≤ lo ∧ lo ≤ n) → (∀ j, 0 ≤ j → j < lo → tb X j = false) → popc X ≤ ((p + 1 : Nat) : Int) → ∃ a Y, (lo ≤ a ∧ a ≤ n) ∧ (0 ≤ Y ∧ Y < p2 n) ∧ (∀ j, 0 ≤ j → j < lowQ n a → tb Y j = false) ∧ popc Y ≤ (p : Int) ∧ (∀ j, 0 ≤ j → j < n → (tb X j = true ↔ (a = j ∨ tb Y j = true))) := by
    intro X lo p hX hlo hno hp
    rcases fb_spec (n := n) (rem := X) (come := lo) hlo with ⟨h1, h2⟩ | ⟨h1, h2, h3⟩
    · have z : ∀ j, 0 ≤ j → j < n → tb X j = false := fun j a b => by
        rcases Int.lt_or_le j lo with q | q
        · exact hno j a q
        · exact h2 j q b
      have e : X = 0 := tb_ext hX.1 (Int.le_refl 0) (fun j j0 => by
        rw [tb_0]
        rcases Int.lt_or_le j n with q | q
        · exact z j j0 q
        · exact tb_big hX.1 hX.2 q)
      have p0 : popc 0 = 0 := by decide +kernel
      refine ⟨n, X, by omega, hX, fun j j0 _ => by rw [e]; exact tb_0 j, by rw [e, p0]; omega, fun j j0 j1 => ?_⟩
      constructor
      · exact fun h => Or.inr h
      · rintro (h | h)
        · omega
        · exact h
    · generalize hj : fb n X lo = j at *
      have sb := tb_sub hX.1 (show 0 ≤ j by omega) h2
      have ps := popc_sub hX.1 (show 0 ≤ j by omega) (by omega) h2
      refine ⟨j, X - p2 j, by omega, by omega, fun i i0 i1 => ?_, by omega, fun i i0 i1 => ?_⟩
      · unfold lowQ at i1
        rw [if_neg (by omega)] at i1
        rw [sb.2 i i0]
        by_cases q : j = i
        · rw [decide_eq_true q]
          simp
        · have : tb X i = false := by
            rcases Int.lt_or_le i lo with q2 | q2
            · exact hno i i0 q2
            · exact h3 i q2 (by omega)
          rw [this]
          rfl
      · rw [sb.2 i i0]
        constructor
        · intro h
          by_cases q : j = i
          · exact Or.inl q
          · right
            rw [h, decide_eq_false q]
            rfl
        · rintro (h | h)
          · rw [← h]
            exact h2
          · rw [Bool.and_eq_true] at h
            exact h.1
  have lb : ∀ a, 0 ≤ a → a ≤ n → 0 ≤ lowQ n a ∧ lowQ n a ≤ n := by
    intro a a0 a1
    unfold lowQ
    split <;> omega
  obtain ⟨a, Y1, a1, a2, a3, a4, a5⟩ := one L 0 3 hL (by omega) (fun j _ _ => by omega) (by omega)
  have la := lb a (by omega) a1.2
  obtain ⟨b, Y2, b1, b2, b3, b4, b5⟩ := one Y1 (lowQ n a) 2 a2 la a3 a4
  have lb' := lb b (by omega) b1.2
  obtain ⟨c, Y3, c1, c2, c3, c4, c5⟩ := one Y2 (lowQ n b) 1 b2 lb' b3 b4
  have lc := lb c (by omega) c1.2
  obtain ⟨d, Y4, d1, d2, d3, d4, d5⟩ := one Y3 (lowQ n c) 0 c2 lc c3 c4
  have ld := lb d (by omega) d1.2
  refine ⟨a, b, c, d, by omega, by omega, by omega, by omega, ?_⟩
  have q := setQ_tb (a := a) (b := b) (c := c) (d := d) hn (by omega) (by omega) (by omega) (by omega)
  refine tb_ext hL.1 q.1.1 (fun j j0 => ?_)
  have iff : tb L j = true ↔ tb (setQ n a b c d) j = true := by
    rw [q.2 j j0]
    constructor
    · intro h
      have hjn : j < n := by
        rcases Int.lt_or_le j n with z | z
        · exact z
        · rw [tb_big hL.1 hL.2 z] at h
          cases h
      refine ⟨hjn, ?_⟩
      rcases (a5 j j0 hjn).mp h with z | z
      · exact Or.inl z
      · rcases (b5 j j0 hjn).mp z with z | z
        · exact Or.inr (Or.inl z)
        · rcases (c5 j j0 hjn).mp z with z | z
          · exact Or.inr (Or.inr (Or.inl z))
          · rcases (d5 j j0 hjn).mp z with z | z
            · exact Or.inr (Or.inr (Or.inr z))
            · rw [popc_zero d2.1 (by omega) j0 (by omega)] at z
              cases z
    · rintro ⟨hjn, h⟩
      rw [a5 j j0 hjn, b5 j j0 hjn, c5 j j0 hjn, d5 j j0 hjn]
      rcases h with h | h | h | h
      · exact Or.inl h
      · exact Or.inr (Or.inl h)
      · exact Or.inr (Or.inr (Or.inl h))
      · exact Or.inr (Or.inr (Or.inr (Or.inl h)))
  cases z : tb L j
  · cases z2 : tb (setQ n a b c d) j
    · rfl
    · rw [iff.mpr z2] at z
      cases z
  · exact (iff.mp z).symm
def gtFr (mem m : mmM) : Prop := (∀ a, a ≠ 65 → a ≠ 86 → m a = mem a) ∧ ∀ j, (j < 36 ∨ 39 < j) → m 65 j = mem 65 j
theorem gtFr.trans {m0 m1 m2 : mmM} (h : gtFr m0 m1) (h' : gtFr m1 m2) : gtFr m0 m2 := ⟨fun a a1 a2 => (h'.1 a a1 a2).trans (h.1 a a1 a2), fun j hj => (h'.2 j hj).trans (h.2 j hj)⟩
theorem gtFr.play {mem m : mmM} (h : gtFr mem m) (hp : playM mem) : playM m ∧ m 65 27 = mem 65 27 ∧ leapM m = leapM mem := by
  have e27 := h.2 27 (by omega)
  have e79 := h.1 79 (by decide) (by decide)
  have e80 := h.1 80 (by decide) (by decide)
  exact ⟨playM_congr hp e27 e79 e80 (h.1 81 (by decide) (by decide)), e27, leapM_congr e27 e79 e80 (h.1 83 (by decide) (by decide))⟩
/-- the best so far of the sets D -/
def mInv (n : Int) (to : Int → Int) (k : Nat) (long x3 x4 : Int) (D : Int → Prop) : Prop :=
  (x3 = -1 ∧ ∀ L, D L → (0 ≤ L ∧ L < p2 n) → popc L ≤ (k : Int) → (rnS n to k 0 L).1 = -1) ∨
  (((0 ≤ x3 ∧ x3 < p2 n) ∧ popc x3 ≤ (k : Int) ∧ ¬ (rnS n to k 0 x3).1 = -1 ∧ x4 = (rnS n to k 0 x3).1) ∧ ∀ L, D L → (0 ≤ L ∧ L < p2 n) → popc L ≤ (k : Int) → ¬ (rnS n to k 0 L).1 = -1 → leqE long (x4, x3) ((rnS n to k 0 L).1, L))
theorem mInv_less {n : Int} {to : Int → Int} {k : Nat} {long x3 x4 : Int} {D D' : Int → Prop} (h : mInv n to k long x3 x4 D) (hD : ∀ L, D' L → D L) : mInv n to k long x3 x4 D' :=
  h.imp (fun z => ⟨z.1, fun L d => z.2 L (hD L d)⟩) (fun z => ⟨z.1, fun L d => z.2 L (hD L d)⟩)
theorem mInv_same {n : Int} {to : Int → Int} {k : Nat} {long x3 x4 S : Int} {D : Int → Prop} (h : mInv n to k long x3 x4 D) (hS : (0 ≤ S ∧ S < p2 n) → popc S ≤ (k : Int) → (rnS n to k 0 S).1 = -1 ∨ (¬ x3 = -1 ∧ leqE long (x4, x3) ((rnS n to k 0 S).1, S))) : mInv n to k long x3 x4 (fun L => D L ∨ L = S) := by
  rcases h with ⟨h1, h2⟩ | ⟨h1, h2⟩
  · refine Or.inl ⟨h1, fun L d a b => ?_⟩
    rcases d with d | d
    · exact h2 L d a b
    · rw [d] at a b ⊢
      rcases hS a b with z | z
      · exact z
      · exact absurd h1 z.1
  · refine Or.inr ⟨h1, fun L d a b c => ?_⟩
    rcases d with d | d
    · exact h2 L d a b c
    · rw [d] at a b c ⊢
      rcases hS a b with z | z
      · exact absurd z c
      · exact z.2
theorem mInv_new {n : Int} {to : Int → Int} {k : Nat} {long x3 x4 S : Int} {D : Int → Prop} (h : mInv n to k long x3 x4 D) (hS : (0 ≤ S ∧ S < p2 n) ∧ popc S ≤ (k : Int) ∧ ¬ (rnS n to k 0 S).1 = -1) (hb : ¬ x3 = -1 → leqE long ((rnS n to k 0 S).1, S) (x4, x3)) : mInv n to k long S (rnS n to k 0 S).1 (fun L => D L ∨ L = S) := by
  refine Or.inr ⟨⟨hS.1, hS.2.1, hS.2.2, rfl⟩, fun L d a b c => ?_⟩
  rcases d with d | d
  · rcases h with ⟨h1, h2⟩ | ⟨h1, h2⟩
    · exact absurd (h2 L d a b) c
    · exact leqE_trans (hb (by omega)) (h2 L d a b c)
  · rw [d]
    exact leqE_refl _ _
theorem cn_X12_lossesFor {d : Nat} {P : Int → mmM → Prop} {mem : mmM} {x1 x2 : Int} (h : mmT bX12_lossesFor d 0 0 (mQ 0 P) 0 [(2, 65), (0, x1), (0, x2), (9, 0), (9, 0), (9, 0), (9, 0), (9, 0), (9, 0), (9, 0), (9, 0)] [] mS mem) : con 0 bX12_lossesFor d [(2, 65), (0, x1), (0, x2)] mem P := mmC_of [(2, 65), (0, x1), (0, x2), (9, 0), (9, 0), (9, 0), (9, 0), (9, 0), (9, 0), (9, 0), (9, 0)] ok_X12_lossesFor.2.2.2.2 rfl (Nat.le_of_ble_eq_true rfl) h
theorem bk_X12_lossesFor_0 {d : Nat} {P : Int → mmM → Prop} {mem : mmM} {x1 x2 : Int}
  (k1 : mmT bX12_lossesFor d 0 0 (mQ 0 P) 8 [(2, 65), (0, x1), (0, x2), (0, (-1)), (0, 0), (0, 0), (9, 0), (9, 0), (9, 0), (9, 0), (9, 0)] [] mS mem)
  : mmT bX12_lossesFor d 0 0 (mQ 0 P) 0 [(2, 65), (0, x1), (0, x2), (9, 0), (9, 0), (9, 0), (9, 0), (9, 0), (9, 0), (9, 0), (9, 0)] [] mS mem := by
  refine st_iconst dX12_lossesFor_0 ?_
  refine st_istore_n (i := 3) rfl (by decide) (lc' := [(2, 65), (0, x1), (0, x2), (0, (-1)), (9, 0), (9, 0), (9, 0), (9, 0), (9, 0), (9, 0), (9, 0)]) rfl dX12_lossesFor_1 ?_
  refine st_iconst dX12_lossesFor_2 ?_
  refine st_istore (by decide) (lc' := [(2, 65), (0, x1), (0, x2), (0, (-1)), (0, 0), (9, 0), (9, 0), (9, 0), (9, 0), (9, 0), (9, 0)]) rfl dX12_lossesFor_3 ?_
  refine st_iconst dX12_lossesFor_5 ?_
  refine st_istore (by decide) (lc' := [(2, 65), (0, x1), (0, x2), (0, (-1)), (0, 0), (0, 0), (9, 0), (9, 0), (9, 0), (9, 0), (9, 0)]) rfl dX12_lossesFor_6 ?_
  exact st_locals [(2, 65), (0, x1), (0, x2), (0, (-1)), (0, 0), (0, 0), (9, 0), (9, 0), (9, 0), (9, 0), (9, 0)] ⟨Or.inr rfl, Or.inr rfl, Or.inr rfl, Or.inr rfl, Or.inr rfl, Or.inr rfl, Or.inl rfl, Or.inl rfl, Or.inl rfl, Or.inl rfl, Or.inl rfl, trivial⟩ k1
theorem bk_X12_lossesFor_8 {d : Nat} {P : Int → mmM → Prop} {mem : mmM} {x1 x2 x3 x4 x5 : Int}
  (k1 : x5 ≤ (mem 65 27) → ¬ x5 = (mem 65 27) → mmT bX12_lossesFor d 0 0 (mQ 0 P) 39 [(2, 65), (0, x1), (0, x2), (0, x3), (0, x4), (0, x5), (0, (x5 + 1)), (9, 0), (9, 0), (9, 0), (9, 0)] [] mS mem)
  (k2 : x5 ≤ (mem 65 27) → x5 = (mem 65 27) → mmT bX12_lossesFor d 0 0 (mQ 0 P) 39 [(2, 65), (0, x1), (0, x2), (0, x3), (0, x4), (0, x5), (0, (mem 65 27)), (9, 0), (9, 0), (9, 0), (9, 0)] [] mS mem)
  (q1 : (mem 65 27) < x5 → P x3 mem)
  (s1 : R32 x5 := by intros; first | omega | assumption | solve_by_elim)
  : mmT bX12_lossesFor d 0 0 (mQ 0 P) 8 [(2, 65), (0, x1), (0, x2), (0, x3), (0, x4), (0, x5), (9, 0), (9, 0), (9, 0), (9, 0), (9, 0)] [] mS mem := by
  refine st_iload rfl dX12_lossesFor_8 ?_
  refine st_aload_n (i := 0) rfl (t := 0) rfl (by decide) dX12_lossesFor_10 ?_
  refine so_getI (v := (mem 65 27)) 65 27 fr_X12_268_11 rfl sh_65 rfl dX12_lossesFor_11 (fun r1 => ?_)
  refine sr_icmp_gt 243 s1 r1 (by decide) dX12_lossesFor_14 (fun h1 => ?_) (fun h1 => ?_)
  · have h1 : (mem 65 27) < x5 := by omega
    refine st_iload_n (i := 3) rfl rfl dX12_lossesFor_243 ?_
    exact st_ireturn rfl dX12_lossesFor_244 (mQ.ret (q1 h1))
  · have h1 : x5 ≤ (mem 65 27) := by omega
    refine st_iload rfl dX12_lossesFor_17 ?_
    refine st_aload_n (i := 0) rfl (t := 0) rfl (by decide) dX12_lossesFor_19 ?_
    refine so_getI (v := (mem 65 27)) 65 27 fr_X12_268_11 rfl sh_65 rfl dX12_lossesFor_20 (fun r2 => ?_)
    refine sr_icmp_ne 33 s1 r2 (by decide) dX12_lossesFor_23 (fun h2 => ?_) (fun h2 => ?_)
    · have h2 : ¬ x5 = (mem 65 27) := by omega
      refine st_iload rfl dX12_lossesFor_33 ?_
      refine st_iconst dX12_lossesFor_35 ?_
      refine st_iadd dX12_lossesFor_36 ?_
      refine st_istore (by decide) (lc' := [(2, 65), (0, x1), (0, x2), (0, x3), (0, x4), (0, x5), (0, (x5 + 1)), (9, 0), (9, 0), (9, 0), (9, 0)]) rfl dX12_lossesFor_37 ?_
      exact st_locals [(2, 65), (0, x1), (0, x2), (0, x3), (0, x4), (0, x5), (0, (x5 + 1)), (9, 0), (9, 0), (9, 0), (9, 0)] ⟨Or.inr rfl, Or.inr rfl, Or.inr rfl, Or.inr rfl, Or.inr rfl, Or.inr rfl, Or.inr rfl, Or.inl rfl, Or.inl rfl, Or.inl rfl, Or.inl rfl, trivial⟩ (k1 h1 h2)
    · have h2 : x5 = (mem 65 27) := by omega
      refine st_aload_n (i := 0) rfl (t := 0) rfl (by decide) dX12_lossesFor_26 ?_
      refine so_getI (v := (mem 65 27)) 65 27 fr_X12_268_11 rfl sh_65 rfl dX12_lossesFor_27 (fun r3 => ?_)
      refine st_goto 37 (by decide) dX12_lossesFor_30 ?_
      refine st_istore (by decide) (lc' := [(2, 65), (0, x1), (0, x2), (0, x3), (0, x4), (0, x5), (0, (mem 65 27)), (9, 0), (9, 0), (9, 0), (9, 0)]) rfl dX12_lossesFor_37 ?_
      exact st_locals [(2, 65), (0, x1), (0, x2), (0, x3), (0, x4), (0, x5), (0, (mem 65 27)), (9, 0), (9, 0), (9, 0), (9, 0)] ⟨Or.inr rfl, Or.inr rfl, Or.inr rfl, Or.inr rfl, Or.inr rfl, Or.inr rfl, Or.inr rfl, Or.inl rfl, Or.inl rfl, Or.inl rfl, Or.inl rfl, trivial⟩ (k2 h1 h2)
theorem bk_X12_lossesFor_39 {d : Nat} {P : Int → mmM → Prop} {mem : mmM} {x1 x2 x3 x4 x5 x6 : Int}
  (k1 : (mem 65 27) < x6 → mmT bX12_lossesFor d 0 0 (mQ 0 P) 8 [(2, 65), (0, x1), (0, x2), (0, x3), (0, x4), (0, (x5 + 1)), (9, 0), (9, 0), (9, 0), (9, 0), (9, 0)] [] mS mem)
  (k2 : x6 ≤ (mem 65 27) → ¬ x6 = (mem 65 27) → mmT bX12_lossesFor d 0 0 (mQ 0 P) 70 [(2, 65), (0, x1), (0, x2), (0, x3), (0, x4), (0, x5), (0, x6), (0, (x6 + 1)), (9, 0), (9, 0), (9, 0)] [] mS mem)
  (k3 : x6 ≤ (mem 65 27) → x6 = (mem 65 27) → mmT bX12_lossesFor d 0 0 (mQ 0 P) 70 [(2, 65), (0, x1), (0, x2), (0, x3), (0, x4), (0, x5), (0, x6), (0, (mem 65 27)), (9, 0), (9, 0), (9, 0)] [] mS mem)
  (s1 : R32 x6 := by intros; first | omega | assumption | solve_by_elim)
  : mmT bX12_lossesFor d 0 0 (mQ 0 P) 39 [(2, 65), (0, x1), (0, x2), (0, x3), (0, x4), (0, x5), (0, x6), (9, 0), (9, 0), (9, 0), (9, 0)] [] mS mem := by
  refine st_iload rfl dX12_lossesFor_39 ?_
  refine st_aload_n (i := 0) rfl (t := 0) rfl (by decide) dX12_lossesFor_41 ?_
  refine so_getI (v := (mem 65 27)) 65 27 fr_X12_268_11 rfl sh_65 rfl dX12_lossesFor_42 (fun r1 => ?_)
  refine sr_icmp_gt 237 s1 r1 (by decide) dX12_lossesFor_45 (fun h1 => ?_) (fun h1 => ?_)
  · have h1 : (mem 65 27) < x6 := by omega
    refine st_iinc (y := (x5 + 1)) (by decide) (i := 5) rfl rfl (lc' := [(2, 65), (0, x1), (0, x2), (0, x3), (0, x4), (0, (x5 + 1)), (0, x6), (9, 0), (9, 0), (9, 0), (9, 0)]) rfl dX12_lossesFor_237 ?_
    refine st_goto 8 (by decide) dX12_lossesFor_240 ?_
    exact st_locals [(2, 65), (0, x1), (0, x2), (0, x3), (0, x4), (0, (x5 + 1)), (9, 0), (9, 0), (9, 0), (9, 0), (9, 0)] ⟨Or.inr rfl, Or.inr rfl, Or.inr rfl, Or.inr rfl, Or.inr rfl, Or.inr rfl, Or.inl rfl, Or.inl rfl, Or.inl rfl, Or.inl rfl, Or.inl rfl, trivial⟩ (k1 h1)
  · have h1 : x6 ≤ (mem 65 27) := by omega
    refine st_iload rfl dX12_lossesFor_48 ?_
    refine st_aload_n (i := 0) rfl (t := 0) rfl (by decide) dX12_lossesFor_50 ?_
    refine so_getI (v := (mem 65 27)) 65 27 fr_X12_268_11 rfl sh_65 rfl dX12_lossesFor_51 (fun r2 => ?_)
    refine sr_icmp_ne 64 s1 r2 (by decide) dX12_lossesFor_54 (fun h2 => ?_) (fun h2 => ?_)
    · have h2 : ¬ x6 = (mem 65 27) := by omega
      refine st_iload rfl dX12_lossesFor_64 ?_
      refine st_iconst dX12_lossesFor_66 ?_
      refine st_iadd dX12_lossesFor_67 ?_
      refine st_istore (by decide) (lc' := [(2, 65), (0, x1), (0, x2), (0, x3), (0, x4), (0, x5), (0, x6), (0, (x6 + 1)), (9, 0), (9, 0), (9, 0)]) rfl dX12_lossesFor_68 ?_
      exact st_locals [(2, 65), (0, x1), (0, x2), (0, x3), (0, x4), (0, x5), (0, x6), (0, (x6 + 1)), (9, 0), (9, 0), (9, 0)] ⟨Or.inr rfl, Or.inr rfl, Or.inr rfl, Or.inr rfl, Or.inr rfl, Or.inr rfl, Or.inr rfl, Or.inr rfl, Or.inl rfl, Or.inl rfl, Or.inl rfl, trivial⟩ (k2 h1 h2)
    · have h2 : x6 = (mem 65 27) := by omega
      refine st_aload_n (i := 0) rfl (t := 0) rfl (by decide) dX12_lossesFor_57 ?_
      refine so_getI (v := (mem 65 27)) 65 27 fr_X12_268_11 rfl sh_65 rfl dX12_lossesFor_58 (fun r3 => ?_)
      refine st_goto 68 (by decide) dX12_lossesFor_61 ?_
      refine st_istore (by decide) (lc' := [(2, 65), (0, x1), (0, x2), (0, x3), (0, x4), (0, x5), (0, x6), (0, (mem 65 27)), (9, 0), (9, 0), (9, 0)]) rfl dX12_lossesFor_68 ?_
      exact st_locals [(2, 65), (0, x1), (0, x2), (0, x3), (0, x4), (0, x5), (0, x6), (0, (mem 65 27)), (9, 0), (9, 0), (9, 0)] ⟨Or.inr rfl, Or.inr rfl, Or.inr rfl, Or.inr rfl, Or.inr rfl, Or.inr rfl, Or.inr rfl, Or.inr rfl, Or.inl rfl, Or.inl rfl, Or.inl rfl, trivial⟩ (k3 h1 h2)
theorem bk_X12_lossesFor_70 {d : Nat} {P : Int → mmM → Prop} {mem : mmM} {x1 x2 x3 x4 x5 x6 x7 : Int}
  (k1 : (mem 65 27) < x7 → mmT bX12_lossesFor d 0 0 (mQ 0 P) 39 [(2, 65), (0, x1), (0, x2), (0, x3), (0, x4), (0, x5), (0, (x6 + 1)), (9, 0), (9, 0), (9, 0), (9, 0)] [] mS mem)
  (k2 : x7 ≤ (mem 65 27) → ¬ x7 = (mem 65 27) → mmT bX12_lossesFor d 0 0 (mQ 0 P) 101 [(2, 65), (0, x1), (0, x2), (0, x3), (0, x4), (0, x5), (0, x6), (0, x7), (0, (x7 + 1)), (9, 0), (9, 0)] [] mS mem)
  (k3 : x7 ≤ (mem 65 27) → x7 = (mem 65 27) → mmT bX12_lossesFor d 0 0 (mQ 0 P) 101 [(2, 65), (0, x1), (0, x2), (0, x3), (0, x4), (0, x5), (0, x6), (0, x7), (0, (mem 65 27)), (9, 0), (9, 0)] [] mS mem)
  (s1 : R32 x7 := by intros; first | omega | assumption | solve_by_elim)
  : mmT bX12_lossesFor d 0 0 (mQ 0 P) 70 [(2, 65), (0, x1), (0, x2), (0, x3), (0, x4), (0, x5), (0, x6), (0, x7), (9, 0), (9, 0), (9, 0)] [] mS mem := by
  refine st_iload rfl dX12_lossesFor_70 ?_
  refine st_aload_n (i := 0) rfl (t := 0) rfl (by decide) dX12_lossesFor_72 ?_
  refine so_getI (v := (mem 65 27)) 65 27 fr_X12_268_11 rfl sh_65 rfl dX12_lossesFor_73 (fun r1 => ?_)
  refine sr_icmp_gt 231 s1 r1 (by decide) dX12_lossesFor_76 (fun h1 => ?_) (fun h1 => ?_)
  · have h1 : (mem 65 27) < x7 := by omega
    refine st_iinc (y := (x6 + 1)) (by decide) (i := 6) rfl rfl (lc' := [(2, 65), (0, x1), (0, x2), (0, x3), (0, x4), (0, x5), (0, (x6 + 1)), (0, x7), (9, 0), (9, 0), (9, 0)]) rfl dX12_lossesFor_231 ?_
    refine st_goto 39 (by decide) dX12_lossesFor_234 ?_
    exact st_locals [(2, 65), (0, x1), (0, x2), (0, x3), (0, x4), (0, x5), (0, (x6 + 1)), (9, 0), (9, 0), (9, 0), (9, 0)] ⟨Or.inr rfl, Or.inr rfl, Or.inr rfl, Or.inr rfl, Or.inr rfl, Or.inr rfl, Or.inr rfl, Or.inl rfl, Or.inl rfl, Or.inl rfl, Or.inl rfl, trivial⟩ (k1 h1)
  · have h1 : x7 ≤ (mem 65 27) := by omega
    refine st_iload rfl dX12_lossesFor_79 ?_
    refine st_aload_n (i := 0) rfl (t := 0) rfl (by decide) dX12_lossesFor_81 ?_
    refine so_getI (v := (mem 65 27)) 65 27 fr_X12_268_11 rfl sh_65 rfl dX12_lossesFor_82 (fun r2 => ?_)
    refine sr_icmp_ne 95 s1 r2 (by decide) dX12_lossesFor_85 (fun h2 => ?_) (fun h2 => ?_)
    · have h2 : ¬ x7 = (mem 65 27) := by omega
      refine st_iload rfl dX12_lossesFor_95 ?_
      refine st_iconst dX12_lossesFor_97 ?_
      refine st_iadd dX12_lossesFor_98 ?_
      refine st_istore (by decide) (lc' := [(2, 65), (0, x1), (0, x2), (0, x3), (0, x4), (0, x5), (0, x6), (0, x7), (0, (x7 + 1)), (9, 0), (9, 0)]) rfl dX12_lossesFor_99 ?_
      exact st_locals [(2, 65), (0, x1), (0, x2), (0, x3), (0, x4), (0, x5), (0, x6), (0, x7), (0, (x7 + 1)), (9, 0), (9, 0)] ⟨Or.inr rfl, Or.inr rfl, Or.inr rfl, Or.inr rfl, Or.inr rfl, Or.inr rfl, Or.inr rfl, Or.inr rfl, Or.inr rfl, Or.inl rfl, Or.inl rfl, trivial⟩ (k2 h1 h2)
    · have h2 : x7 = (mem 65 27) := by omega
      refine st_aload_n (i := 0) rfl (t := 0) rfl (by decide) dX12_lossesFor_88 ?_
      refine so_getI (v := (mem 65 27)) 65 27 fr_X12_268_11 rfl sh_65 rfl dX12_lossesFor_89 (fun r3 => ?_)
      refine st_goto 99 (by decide) dX12_lossesFor_92 ?_
      refine st_istore (by decide) (lc' := [(2, 65), (0, x1), (0, x2), (0, x3), (0, x4), (0, x5), (0, x6), (0, x7), (0, (mem 65 27)), (9, 0), (9, 0)]) rfl dX12_lossesFor_99 ?_
      exact st_locals [(2, 65), (0, x1), (0, x2), (0, x3), (0, x4), (0, x5), (0, x6), (0, x7), (0, (mem 65 27)), (9, 0), (9, 0)] ⟨Or.inr rfl, Or.inr rfl, Or.inr rfl, Or.inr rfl, Or.inr rfl, Or.inr rfl, Or.inr rfl, Or.inr rfl, Or.inr rfl, Or.inl rfl, Or.inl rfl, trivial⟩ (k3 h1 h2)
theorem bk_X12_lossesFor_101 {d : Nat} {d1 : Nat} {P1 : mmM → Prop} {P : Int → mmM → Prop} {mem : mmM} {x1 x2 x3 x4 x5 x6 x7 x8 : Int}
  (c1 : x8 ≤ (mem 65 27) → (bcS (and32 (or32 (or32 (or32 (shl32 1 x5) (shl32 1 x6)) (shl32 1 x7)) (shl32 1 x8)) ((shl32 1 (mem 65 27)) - 1))) ≤ x1 → conv bX12_goThrough d1 [(2, 65), (0, (and32 (or32 (or32 (or32 (shl32 1 x5) (shl32 1 x6)) (shl32 1 x7)) (shl32 1 x8)) ((shl32 1 (mem 65 27)) - 1)))] mem P1)
  (k1 : (mem 65 27) < x8 → mmT bX12_lossesFor d 0 0 (mQ 0 P) 70 [(2, 65), (0, x1), (0, x2), (0, x3), (0, x4), (0, x5), (0, x6), (0, (x7 + 1)), (9, 0), (9, 0), (9, 0)] [] mS mem)
  (k2 : x8 ≤ (mem 65 27) → x1 < (bcS (and32 (or32 (or32 (or32 (shl32 1 x5) (shl32 1 x6)) (shl32 1 x7)) (shl32 1 x8)) ((shl32 1 (mem 65 27)) - 1))) → mmT bX12_lossesFor d 0 0 (mQ 0 P) 101 [(2, 65), (0, x1), (0, x2), (0, x3), (0, x4), (0, x5), (0, x6), (0, x7), (0, (x8 + 1)), (9, 0), (9, 0)] [] mS mem)
  (k3 : x8 ≤ (mem 65 27) → (bcS (and32 (or32 (or32 (or32 (shl32 1 x5) (shl32 1 x6)) (shl32 1 x7)) (shl32 1 x8)) ((shl32 1 (mem 65 27)) - 1))) ≤ x1 → ∀ (m2 : mmM), P1 m2 → ¬ x3 = (-1) → x2 = 0 → ¬ (m2 65 37) = 0 → mmT bX12_lossesFor d 0 0 (mQ 0 P) 101 [(2, 65), (0, x1), (0, x2), (0, x3), (0, x4), (0, x5), (0, x6), (0, x7), (0, (x8 + 1)), (9, 0), (9, 0)] [] mS m2)
  (k4 : x8 ≤ (mem 65 27) → (bcS (and32 (or32 (or32 (or32 (shl32 1 x5) (shl32 1 x6)) (shl32 1 x7)) (shl32 1 x8)) ((shl32 1 (mem 65 27)) - 1))) ≤ x1 → ∀ (m2 : mmM), P1 m2 → ¬ x3 = (-1) → x2 = 0 → (m2 65 37) = 0 → 0 < (x4 - (m2 65 36)) → mmT bX12_lossesFor d 0 0 (mQ 0 P) 101 [(2, 65), (0, x1), (0, x2), (0, (and32 (or32 (or32 (or32 (shl32 1 x5) (shl32 1 x6)) (shl32 1 x7)) (shl32 1 x8)) ((shl32 1 (mem 65 27)) - 1))), (0, (m2 65 36)), (0, x5), (0, x6), (0, x7), (0, (x8 + 1)), (9, 0), (9, 0)] [] mS m2)
  (k5 : x8 ≤ (mem 65 27) → (bcS (and32 (or32 (or32 (or32 (shl32 1 x5) (shl32 1 x6)) (shl32 1 x7)) (shl32 1 x8)) ((shl32 1 (mem 65 27)) - 1))) ≤ x1 → ∀ (m2 : mmM), P1 m2 → ¬ x3 = (-1) → x2 = 0 → (m2 65 37) = 0 → (x4 - (m2 65 36)) ≤ 0 → ¬ (x4 - (m2 65 36)) = 0 → mmT bX12_lossesFor d 0 0 (mQ 0 P) 101 [(2, 65), (0, x1), (0, x2), (0, x3), (0, x4), (0, x5), (0, x6), (0, x7), (0, (x8 + 1)), (9, 0), (9, 0)] [] mS m2)
  (k6 : x8 ≤ (mem 65 27) → (bcS (and32 (or32 (or32 (or32 (shl32 1 x5) (shl32 1 x6)) (shl32 1 x7)) (shl32 1 x8)) ((shl32 1 (mem 65 27)) - 1))) ≤ x1 → ∀ (m2 : mmM), P1 m2 → ¬ x3 = (-1) → x2 = 0 → (m2 65 37) = 0 → (x4 - (m2 65 36)) ≤ 0 → (x4 - (m2 65 36)) = 0 → x3 ≤ (and32 (or32 (or32 (or32 (shl32 1 x5) (shl32 1 x6)) (shl32 1 x7)) (shl32 1 x8)) ((shl32 1 (mem 65 27)) - 1)) → mmT bX12_lossesFor d 0 0 (mQ 0 P) 101 [(2, 65), (0, x1), (0, x2), (0, x3), (0, x4), (0, x5), (0, x6), (0, x7), (0, (x8 + 1)), (9, 0), (9, 0)] [] mS m2)
  (k7 : x8 ≤ (mem 65 27) → (bcS (and32 (or32 (or32 (or32 (shl32 1 x5) (shl32 1 x6)) (shl32 1 x7)) (shl32 1 x8)) ((shl32 1 (mem 65 27)) - 1))) ≤ x1 → ∀ (m2 : mmM), P1 m2 → ¬ x3 = (-1) → x2 = 0 → (m2 65 37) = 0 → (x4 - (m2 65 36)) ≤ 0 → (x4 - (m2 65 36)) = 0 → (and32 (or32 (or32 (or32 (shl32 1 x5) (shl32 1 x6)) (shl32 1 x7)) (shl32 1 x8)) ((shl32 1 (mem 65 27)) - 1)) < x3 → mmT bX12_lossesFor d 0 0 (mQ 0 P) 101 [(2, 65), (0, x1), (0, x2), (0, (and32 (or32 (or32 (or32 (shl32 1 x5) (shl32 1 x6)) (shl32 1 x7)) (shl32 1 x8)) ((shl32 1 (mem 65 27)) - 1))), (0, (m2 65 36)), (0, x5), (0, x6), (0, x7), (0, (x8 + 1)), (9, 0), (9, 0)] [] mS m2)
  (k8 : x8 ≤ (mem 65 27) → (bcS (and32 (or32 (or32 (or32 (shl32 1 x5) (shl32 1 x6)) (shl32 1 x7)) (shl32 1 x8)) ((shl32 1 (mem 65 27)) - 1))) ≤ x1 → ∀ (m2 : mmM), P1 m2 → ¬ x3 = (-1) → ¬ x2 = 0 → ¬ (m2 65 37) = 0 → mmT bX12_lossesFor d 0 0 (mQ 0 P) 101 [(2, 65), (0, x1), (0, x2), (0, x3), (0, x4), (0, x5), (0, x6), (0, x7), (0, (x8 + 1)), (9, 0), (9, 0)] [] mS m2)
  (k9 : x8 ≤ (mem 65 27) → (bcS (and32 (or32 (or32 (or32 (shl32 1 x5) (shl32 1 x6)) (shl32 1 x7)) (shl32 1 x8)) ((shl32 1 (mem 65 27)) - 1))) ≤ x1 → ∀ (m2 : mmM), P1 m2 → ¬ x3 = (-1) → ¬ x2 = 0 → (m2 65 37) = 0 → 0 < ((m2 65 36) - x4) → mmT bX12_lossesFor d 0 0 (mQ 0 P) 101 [(2, 65), (0, x1), (0, x2), (0, (and32 (or32 (or32 (or32 (shl32 1 x5) (shl32 1 x6)) (shl32 1 x7)) (shl32 1 x8)) ((shl32 1 (mem 65 27)) - 1))), (0, (m2 65 36)), (0, x5), (0, x6), (0, x7), (0, (x8 + 1)), (9, 0), (9, 0)] [] mS m2)
  (k10 : x8 ≤ (mem 65 27) → (bcS (and32 (or32 (or32 (or32 (shl32 1 x5) (shl32 1 x6)) (shl32 1 x7)) (shl32 1 x8)) ((shl32 1 (mem 65 27)) - 1))) ≤ x1 → ∀ (m2 : mmM), P1 m2 → ¬ x3 = (-1) → ¬ x2 = 0 → (m2 65 37) = 0 → ((m2 65 36) - x4) ≤ 0 → ¬ ((m2 65 36) - x4) = 0 → mmT bX12_lossesFor d 0 0 (mQ 0 P) 101 [(2, 65), (0, x1), (0, x2), (0, x3), (0, x4), (0, x5), (0, x6), (0, x7), (0, (x8 + 1)), (9, 0), (9, 0)] [] mS m2)
  (k11 : x8 ≤ (mem 65 27) → (bcS (and32 (or32 (or32 (or32 (shl32 1 x5) (shl32 1 x6)) (shl32 1 x7)) (shl32 1 x8)) ((shl32 1 (mem 65 27)) - 1))) ≤ x1 → ∀ (m2 : mmM), P1 m2 → ¬ x3 = (-1) → ¬ x2 = 0 → (m2 65 37) = 0 → ((m2 65 36) - x4) ≤ 0 → ((m2 65 36) - x4) = 0 → x3 ≤ (and32 (or32 (or32 (or32 (shl32 1 x5) (shl32 1 x6)) (shl32 1 x7)) (shl32 1 x8)) ((shl32 1 (mem 65 27)) - 1)) → mmT bX12_lossesFor d 0 0 (mQ 0 P) 101 [(2, 65), (0, x1), (0, x2), (0, x3), (0, x4), (0, x5), (0, x6), (0, x7), (0, (x8 + 1)), (9, 0), (9, 0)] [] mS m2)
  (k12 : x8 ≤ (mem 65 27) → (bcS (and32 (or32 (or32 (or32 (shl32 1 x5) (shl32 1 x6)) (shl32 1 x7)) (shl32 1 x8)) ((shl32 1 (mem 65 27)) - 1))) ≤ x1 → ∀ (m2 : mmM), P1 m2 → ¬ x3 = (-1) → ¬ x2 = 0 → (m2 65 37) = 0 → ((m2 65 36) - x4) ≤ 0 → ((m2 65 36) - x4) = 0 → (and32 (or32 (or32 (or32 (shl32 1 x5) (shl32 1 x6)) (shl32 1 x7)) (shl32 1 x8)) ((shl32 1 (mem 65 27)) - 1)) < x3 → mmT bX12_lossesFor d 0 0 (mQ 0 P) 101 [(2, 65), (0, x1), (0, x2), (0, (and32 (or32 (or32 (or32 (shl32 1 x5) (shl32 1 x6)) (shl32 1 x7)) (shl32 1 x8)) ((shl32 1 (mem 65 27)) - 1))), (0, (m2 65 36)), (0, x5), (0, x6), (0, x7), (0, (x8 + 1)), (9, 0), (9, 0)] [] mS m2)
  (k13 : x8 ≤ (mem 65 27) → (bcS (and32 (or32 (or32 (or32 (shl32 1 x5) (shl32 1 x6)) (shl32 1 x7)) (shl32 1 x8)) ((shl32 1 (mem 65 27)) - 1))) ≤ x1 → ∀ (m2 : mmM), P1 m2 → x3 = (-1) → ¬ (m2 65 37) = 0 → mmT bX12_lossesFor d 0 0 (mQ 0 P) 101 [(2, 65), (0, x1), (0, x2), (0, x3), (0, x4), (0, x5), (0, x6), (0, x7), (0, (x8 + 1)), (9, 0), (9, 0)] [] mS m2)
  (k14 : x8 ≤ (mem 65 27) → (bcS (and32 (or32 (or32 (or32 (shl32 1 x5) (shl32 1 x6)) (shl32 1 x7)) (shl32 1 x8)) ((shl32 1 (mem 65 27)) - 1))) ≤ x1 → ∀ (m2 : mmM), P1 m2 → x3 = (-1) → (m2 65 37) = 0 → mmT bX12_lossesFor d 0 0 (mQ 0 P) 101 [(2, 65), (0, x1), (0, x2), (0, (and32 (or32 (or32 (or32 (shl32 1 x5) (shl32 1 x6)) (shl32 1 x7)) (shl32 1 x8)) ((shl32 1 (mem 65 27)) - 1))), (0, (m2 65 36)), (0, x5), (0, x6), (0, x7), (0, (x8 + 1)), (9, 0), (9, 0)] [] mS m2)
  (hd_d1 : d1 + 1 ≤ d := by omega)
  (hd2 : 2 ≤ d := by omega)
  (s1 : R32 x8 := by intros; first | omega | assumption | solve_by_elim)
  (s2 : x8 ≤ (mem 65 27) → R32 x1 := by intros; first | omega | assumption | solve_by_elim)
  (s3 : x8 ≤ (mem 65 27) → (bcS (and32 (or32 (or32 (or32 (shl32 1 x5) (shl32 1 x6)) (shl32 1 x7)) (shl32 1 x8)) ((shl32 1 (mem 65 27)) - 1))) ≤ x1 → ∀ (m2 : mmM), P1 m2 → R32 x3 := by intros; first | omega | assumption | solve_by_elim)
  (s4 : x8 ≤ (mem 65 27) → (bcS (and32 (or32 (or32 (or32 (shl32 1 x5) (shl32 1 x6)) (shl32 1 x7)) (shl32 1 x8)) ((shl32 1 (mem 65 27)) - 1))) ≤ x1 → ∀ (m2 : mmM), P1 m2 → ¬ x3 = (-1) → R32 x2 := by intros; first | omega | assumption | solve_by_elim)
  (s5 : x8 ≤ (mem 65 27) → (bcS (and32 (or32 (or32 (or32 (shl32 1 x5) (shl32 1 x6)) (shl32 1 x7)) (shl32 1 x8)) ((shl32 1 (mem 65 27)) - 1))) ≤ x1 → ∀ (m2 : mmM), P1 m2 → ¬ x3 = (-1) → x2 = 0 → (m2 65 37) = 0 → R32 (x4 - (m2 65 36)) := by intros; first | omega | assumption | solve_by_elim)
  (s6 : x8 ≤ (mem 65 27) → (bcS (and32 (or32 (or32 (or32 (shl32 1 x5) (shl32 1 x6)) (shl32 1 x7)) (shl32 1 x8)) ((shl32 1 (mem 65 27)) - 1))) ≤ x1 → ∀ (m2 : mmM), P1 m2 → ¬ x3 = (-1) → ¬ x2 = 0 → (m2 65 37) = 0 → R32 ((m2 65 36) - x4) := by intros; first | omega | assumption | solve_by_elim)
  : mmT bX12_lossesFor d 0 0 (mQ 0 P) 101 [(2, 65), (0, x1), (0, x2), (0, x3), (0, x4), (0, x5), (0, x6), (0, x7), (0, x8), (9, 0), (9, 0)] [] mS mem := by
  refine st_iload rfl dX12_lossesFor_101 ?_
  refine st_aload_n (i := 0) rfl (t := 0) rfl (by decide) dX12_lossesFor_103 ?_
  refine so_getI (v := (mem 65 27)) 65 27 fr_X12_268_11 rfl sh_65 rfl dX12_lossesFor_104 (fun r1 => ?_)
  refine sr_icmp_gt 225 s1 r1 (by decide) dX12_lossesFor_107 (fun h1 => ?_) (fun h1 => ?_)
  · have h1 : (mem 65 27) < x8 := by omega
    refine st_iinc (y := (x7 + 1)) (by decide) (i := 7) rfl rfl (lc' := [(2, 65), (0, x1), (0, x2), (0, x3), (0, x4), (0, x5), (0, x6), (0, (x7 + 1)), (0, x8), (9, 0), (9, 0)]) rfl dX12_lossesFor_225 ?_
    refine st_goto 70 (by decide) dX12_lossesFor_228 ?_
    exact st_locals [(2, 65), (0, x1), (0, x2), (0, x3), (0, x4), (0, x5), (0, x6), (0, (x7 + 1)), (9, 0), (9, 0), (9, 0)] ⟨Or.inr rfl, Or.inr rfl, Or.inr rfl, Or.inr rfl, Or.inr rfl, Or.inr rfl, Or.inr rfl, Or.inr rfl, Or.inl rfl, Or.inl rfl, Or.inl rfl, trivial⟩ (k1 h1)
  · have h1 : x8 ≤ (mem 65 27) := by omega
    refine st_iconst dX12_lossesFor_110 ?_
    refine st_iload rfl dX12_lossesFor_111 ?_
    refine st_ishl dX12_lossesFor_113 ?_
    refine st_iconst dX12_lossesFor_114 ?_
    refine st_iload rfl dX12_lossesFor_115 ?_
    refine st_ishl dX12_lossesFor_117 ?_
    refine st_ior dX12_lossesFor_118 ?_
    refine st_iconst dX12_lossesFor_119 ?_
    refine st_iload rfl dX12_lossesFor_120 ?_
    refine st_ishl dX12_lossesFor_122 ?_
    refine st_ior dX12_lossesFor_123 ?_
    refine st_iconst dX12_lossesFor_124 ?_
    refine st_iload rfl dX12_lossesFor_125 ?_
    refine st_ishl dX12_lossesFor_127 ?_
    refine st_ior dX12_lossesFor_128 ?_
    refine st_iconst dX12_lossesFor_129 ?_
    refine st_aload_n (i := 0) rfl (t := 0) rfl (by decide) dX12_lossesFor_130 ?_
    refine so_getI (v := (mem 65 27)) 65 27 fr_X12_268_11 rfl sh_65 rfl dX12_lossesFor_131 (fun r2 => ?_)
    refine st_ishl dX12_lossesFor_134 ?_
    refine st_iconst dX12_lossesFor_135 ?_
    refine st_isub dX12_lossesFor_136 ?_
    refine st_iand dX12_lossesFor_137 ?_
    refine st_istore (by decide) (lc' := [(2, 65), (0, x1), (0, x2), (0, x3), (0, x4), (0, x5), (0, x6), (0, x7), (0, x8), (0, (and32 (or32 (or32 (or32 (shl32 1 x5) (shl32 1 x6)) (shl32 1 x7)) (shl32 1 x8)) ((shl32 1 (mem 65 27)) - 1))), (9, 0)]) rfl dX12_lossesFor_138 ?_
    refine st_iload rfl dX12_lossesFor_140 ?_
    refine st_callS (kc2 := 0) (ks2 := 0) (av := [(0, (and32 (or32 (or32 (or32 (shl32 1 x5) (shl32 1 x6)) (shl32 1 x7)) (shl32 1 x8)) ((shl32 1 (mem 65 27)) - 1)))]) mr_X12_245 ok_J6_bitCount_0f7a4 (c_bitCount mem (and32 (or32 (or32 (or32 (shl32 1 x5) (shl32 1 x6)) (shl32 1 x7)) (shl32 1 x8)) ((shl32 1 (mem 65 27)) - 1)) ) rfl rfl hd2 (Nat.le_refl 0) (Nat.le_refl 0) (Nat.le_of_ble_eq_true rfl) dX12_lossesFor_142 (mQ.elim fun v1 m1 hp => ?_)
    obtain ⟨hpv, hpm⟩ := hp
    subst hpv
    have hpm := hpm.symm
    subst hpm
    refine st_iload_n (i := 1) rfl rfl dX12_lossesFor_145 ?_
    refine sr_icmp_gt 219 (bcS_rng (and32 (or32 (or32 (or32 (shl32 1 x5) (shl32 1 x6)) (shl32 1 x7)) (shl32 1 x8)) ((shl32 1 (mem 65 27)) - 1))) (s2 h1) (by decide) dX12_lossesFor_146 (fun h2 => ?_) (fun h2 => ?_)
    · have h2 : x1 < (bcS (and32 (or32 (or32 (or32 (shl32 1 x5) (shl32 1 x6)) (shl32 1 x7)) (shl32 1 x8)) ((shl32 1 (mem 65 27)) - 1))) := by omega
      refine st_iinc (y := (x8 + 1)) (by decide) (i := 8) rfl rfl (lc' := [(2, 65), (0, x1), (0, x2), (0, x3), (0, x4), (0, x5), (0, x6), (0, x7), (0, (x8 + 1)), (0, (and32 (or32 (or32 (or32 (shl32 1 x5) (shl32 1 x6)) (shl32 1 x7)) (shl32 1 x8)) ((shl32 1 (mem 65 27)) - 1))), (9, 0)]) rfl dX12_lossesFor_219 ?_
      refine st_goto 101 (by decide) dX12_lossesFor_222 ?_
      exact st_locals [(2, 65), (0, x1), (0, x2), (0, x3), (0, x4), (0, x5), (0, x6), (0, x7), (0, (x8 + 1)), (9, 0), (9, 0)] ⟨Or.inr rfl, Or.inr rfl, Or.inr rfl, Or.inr rfl, Or.inr rfl, Or.inr rfl, Or.inr rfl, Or.inr rfl, Or.inr rfl, Or.inl rfl, Or.inl rfl, trivial⟩ (k2 h1 h2)
    · have h2 : (bcS (and32 (or32 (or32 (or32 (shl32 1 x5) (shl32 1 x6)) (shl32 1 x7)) (shl32 1 x8)) ((shl32 1 (mem 65 27)) - 1))) ≤ x1 := by omega
      refine st_aload_n (i := 0) rfl (t := 0) rfl (by decide) dX12_lossesFor_149 ?_
      refine st_iload rfl dX12_lossesFor_150 ?_
      refine st_callV (kc2 := 0) (ks2 := 0) (av := [(0, (and32 (or32 (or32 (or32 (shl32 1 x5) (shl32 1 x6)) (shl32 1 x7)) (shl32 1 x8)) ((shl32 1 (mem 65 27)) - 1)))]) 65 11 mr_X12_354 ok_X12_goThrough (c1 h1 h2) rfl sh_65 ⟨_, rfl, rfl, by decide⟩ rfl rfl hd_d1 (Nat.le_refl 0) (Nat.le_refl 0) (Nat.le_of_ble_eq_true rfl) dX12_lossesFor_152 (mQv.elim fun m2 p1 => ?_)
      refine st_iload_n (i := 3) rfl rfl dX12_lossesFor_155 ?_
      refine st_iconst dX12_lossesFor_156 ?_
      refine sr_icmp_ne 164 (s3 h1 h2 m2 p1) ⟨by decide, by decide⟩ (by decide) dX12_lossesFor_157 (fun h3 => ?_) (fun h3 => ?_)
      · have h3 : ¬ x3 = (-1) := by omega
        refine st_iload_n (i := 2) rfl rfl dX12_lossesFor_164 ?_
        refine sr_if_eq 178 (s4 h1 h2 m2 p1 h3) (by decide) dX12_lossesFor_165 (fun h4 => ?_) (fun h4 => ?_)
        · have h4 : x2 = 0 := by omega
          refine st_iload rfl dX12_lossesFor_178 ?_
          refine st_aload_n (i := 0) rfl (t := 0) rfl (by decide) dX12_lossesFor_180 ?_
          refine so_getI (v := (m2 65 36)) 65 36 fr_X12_330_11 rfl sh_65 rfl dX12_lossesFor_181 (fun r3 => ?_)
          refine st_isub dX12_lossesFor_184 ?_
          refine st_istore (by decide) (lc' := [(2, 65), (0, x1), (0, x2), (0, x3), (0, x4), (0, x5), (0, x6), (0, x7), (0, x8), (0, (and32 (or32 (or32 (or32 (shl32 1 x5) (shl32 1 x6)) (shl32 1 x7)) (shl32 1 x8)) ((shl32 1 (mem 65 27)) - 1))), (0, (x4 - (m2 65 36)))]) rfl dX12_lossesFor_185 ?_
          refine st_aload_n (i := 0) rfl (t := 0) rfl (by decide) dX12_lossesFor_187 ?_
          refine so_getI (v := (m2 65 37)) 65 37 fr_X12_336_11 rfl sh_65 rfl dX12_lossesFor_188 (fun r4 => ?_)
          refine sr_if_ne 219 r4 (by decide) dX12_lossesFor_191 (fun h5 => ?_) (fun h5 => ?_)
          · have h5 : ¬ (m2 65 37) = 0 := by omega
            refine st_iinc (y := (x8 + 1)) (by decide) (i := 8) rfl rfl (lc' := [(2, 65), (0, x1), (0, x2), (0, x3), (0, x4), (0, x5), (0, x6), (0, x7), (0, (x8 + 1)), (0, (and32 (or32 (or32 (or32 (shl32 1 x5) (shl32 1 x6)) (shl32 1 x7)) (shl32 1 x8)) ((shl32 1 (mem 65 27)) - 1))), (0, (x4 - (m2 65 36)))]) rfl dX12_lossesFor_219 ?_
            refine st_goto 101 (by decide) dX12_lossesFor_222 ?_
            exact st_locals [(2, 65), (0, x1), (0, x2), (0, x3), (0, x4), (0, x5), (0, x6), (0, x7), (0, (x8 + 1)), (9, 0), (9, 0)] ⟨Or.inr rfl, Or.inr rfl, Or.inr rfl, Or.inr rfl, Or.inr rfl, Or.inr rfl, Or.inr rfl, Or.inr rfl, Or.inr rfl, Or.inl rfl, Or.inl rfl, trivial⟩ (k3 h1 h2 m2 p1 h3 h4 h5)
          · have h5 : (m2 65 37) = 0 := by omega
            refine st_iload rfl dX12_lossesFor_194 ?_
            refine sr_if_gt 210 (s5 h1 h2 m2 p1 h3 h4 h5) (by decide) dX12_lossesFor_196 (fun h6 => ?_) (fun h6 => ?_)
            · have h6 : 0 < (x4 - (m2 65 36)) := by omega
              refine st_iload rfl dX12_lossesFor_210 ?_
              refine st_istore_n (i := 3) rfl (by decide) (lc' := [(2, 65), (0, x1), (0, x2), (0, (and32 (or32 (or32 (or32 (shl32 1 x5) (shl32 1 x6)) (shl32 1 x7)) (shl32 1 x8)) ((shl32 1 (mem 65 27)) - 1))), (0, x4), (0, x5), (0, x6), (0, x7), (0, x8), (0, (and32 (or32 (or32 (or32 (shl32 1 x5) (shl32 1 x6)) (shl32 1 x7)) (shl32 1 x8)) ((shl32 1 (mem 65 27)) - 1))), (0, (x4 - (m2 65 36)))]) rfl dX12_lossesFor_212 ?_
              refine st_aload_n (i := 0) rfl (t := 0) rfl (by decide) dX12_lossesFor_213 ?_
              refine so_getI (v := (m2 65 36)) 65 36 fr_X12_330_11 rfl sh_65 rfl dX12_lossesFor_214 (fun r5 => ?_)
              refine st_istore (by decide) (lc' := [(2, 65), (0, x1), (0, x2), (0, (and32 (or32 (or32 (or32 (shl32 1 x5) (shl32 1 x6)) (shl32 1 x7)) (shl32 1 x8)) ((shl32 1 (mem 65 27)) - 1))), (0, (m2 65 36)), (0, x5), (0, x6), (0, x7), (0, x8), (0, (and32 (or32 (or32 (or32 (shl32 1 x5) (shl32 1 x6)) (shl32 1 x7)) (shl32 1 x8)) ((shl32 1 (mem 65 27)) - 1))), (0, (x4 - (m2 65 36)))]) rfl dX12_lossesFor_217 ?_
              refine st_iinc (y := (x8 + 1)) (by decide) (i := 8) rfl rfl (lc' := [(2, 65), (0, x1), (0, x2), (0, (and32 (or32 (or32 (or32 (shl32 1 x5) (shl32 1 x6)) (shl32 1 x7)) (shl32 1 x8)) ((shl32 1 (mem 65 27)) - 1))), (0, (m2 65 36)), (0, x5), (0, x6), (0, x7), (0, (x8 + 1)), (0, (and32 (or32 (or32 (or32 (shl32 1 x5) (shl32 1 x6)) (shl32 1 x7)) (shl32 1 x8)) ((shl32 1 (mem 65 27)) - 1))), (0, (x4 - (m2 65 36)))]) rfl dX12_lossesFor_219 ?_
              refine st_goto 101 (by decide) dX12_lossesFor_222 ?_
              exact st_locals [(2, 65), (0, x1), (0, x2), (0, (and32 (or32 (or32 (or32 (shl32 1 x5) (shl32 1 x6)) (shl32 1 x7)) (shl32 1 x8)) ((shl32 1 (mem 65 27)) - 1))), (0, (m2 65 36)), (0, x5), (0, x6), (0, x7), (0, (x8 + 1)), (9, 0), (9, 0)] ⟨Or.inr rfl, Or.inr rfl, Or.inr rfl, Or.inr rfl, Or.inr rfl, Or.inr rfl, Or.inr rfl, Or.inr rfl, Or.inr rfl, Or.inl rfl, Or.inl rfl, trivial⟩ (k4 h1 h2 m2 p1 h3 h4 h5 h6)
            · have h6 : (x4 - (m2 65 36)) ≤ 0 := by omega
              refine st_iload rfl dX12_lossesFor_199 ?_
              refine sr_if_ne 219 (s5 h1 h2 m2 p1 h3 h4 h5) (by decide) dX12_lossesFor_201 (fun h7 => ?_) (fun h7 => ?_)
              · have h7 : ¬ (x4 - (m2 65 36)) = 0 := by omega
                refine st_iinc (y := (x8 + 1)) (by decide) (i := 8) rfl rfl (lc' := [(2, 65), (0, x1), (0, x2), (0, x3), (0, x4), (0, x5), (0, x6), (0, x7), (0, (x8 + 1)), (0, (and32 (or32 (or32 (or32 (shl32 1 x5) (shl32 1 x6)) (shl32 1 x7)) (shl32 1 x8)) ((shl32 1 (mem 65 27)) - 1))), (0, (x4 - (m2 65 36)))]) rfl dX12_lossesFor_219 ?_
                refine st_goto 101 (by decide) dX12_lossesFor_222 ?_
                exact st_locals [(2, 65), (0, x1), (0, x2), (0, x3), (0, x4), (0, x5), (0, x6), (0, x7), (0, (x8 + 1)), (9, 0), (9, 0)] ⟨Or.inr rfl, Or.inr rfl, Or.inr rfl, Or.inr rfl, Or.inr rfl, Or.inr rfl, Or.inr rfl, Or.inr rfl, Or.inr rfl, Or.inl rfl, Or.inl rfl, trivial⟩ (k5 h1 h2 m2 p1 h3 h4 h5 h6 h7)
              · have h7 : (x4 - (m2 65 36)) = 0 := by omega
                refine st_iload rfl dX12_lossesFor_204 ?_
                refine st_iload_n (i := 3) rfl rfl dX12_lossesFor_206 ?_
                refine sr_icmp_ge 219 (and32_rng (or32 (or32 (or32 (shl32 1 x5) (shl32 1 x6)) (shl32 1 x7)) (shl32 1 x8)) ((shl32 1 (mem 65 27)) - 1)) (s3 h1 h2 m2 p1) (by decide) dX12_lossesFor_207 (fun h8 => ?_) (fun h8 => ?_)
                · have h8 : x3 ≤ (and32 (or32 (or32 (or32 (shl32 1 x5) (shl32 1 x6)) (shl32 1 x7)) (shl32 1 x8)) ((shl32 1 (mem 65 27)) - 1)) := by omega
                  refine st_iinc (y := (x8 + 1)) (by decide) (i := 8) rfl rfl (lc' := [(2, 65), (0, x1), (0, x2), (0, x3), (0, x4), (0, x5), (0, x6), (0, x7), (0, (x8 + 1)), (0, (and32 (or32 (or32 (or32 (shl32 1 x5) (shl32 1 x6)) (shl32 1 x7)) (shl32 1 x8)) ((shl32 1 (mem 65 27)) - 1))), (0, (x4 - (m2 65 36)))]) rfl dX12_lossesFor_219 ?_
                  refine st_goto 101 (by decide) dX12_lossesFor_222 ?_
                  exact st_locals [(2, 65), (0, x1), (0, x2), (0, x3), (0, x4), (0, x5), (0, x6), (0, x7), (0, (x8 + 1)), (9, 0), (9, 0)] ⟨Or.inr rfl, Or.inr rfl, Or.inr rfl, Or.inr rfl, Or.inr rfl, Or.inr rfl, Or.inr rfl, Or.inr rfl, Or.inr rfl, Or.inl rfl, Or.inl rfl, trivial⟩ (k6 h1 h2 m2 p1 h3 h4 h5 h6 h7 h8)
                · have h8 : (and32 (or32 (or32 (or32 (shl32 1 x5) (shl32 1 x6)) (shl32 1 x7)) (shl32 1 x8)) ((shl32 1 (mem 65 27)) - 1)) < x3 := by omega
                  refine st_iload rfl dX12_lossesFor_210 ?_
                  refine st_istore_n (i := 3) rfl (by decide) (lc' := [(2, 65), (0, x1), (0, x2), (0, (and32 (or32 (or32 (or32 (shl32 1 x5) (shl32 1 x6)) (shl32 1 x7)) (shl32 1 x8)) ((shl32 1 (mem 65 27)) - 1))), (0, x4), (0, x5), (0, x6), (0, x7), (0, x8), (0, (and32 (or32 (or32 (or32 (shl32 1 x5) (shl32 1 x6)) (shl32 1 x7)) (shl32 1 x8)) ((shl32 1 (mem 65 27)) - 1))), (0, (x4 - (m2 65 36)))]) rfl dX12_lossesFor_212 ?_
                  refine st_aload_n (i := 0) rfl (t := 0) rfl (by decide) dX12_lossesFor_213 ?_
                  refine so_getI (v := (m2 65 36)) 65 36 fr_X12_330_11 rfl sh_65 rfl dX12_lossesFor_214 (fun r6 => ?_)
                  refine st_istore (by decide) (lc' := [(2, 65), (0, x1), (0, x2), (0, (and32 (or32 (or32 (or32 (shl32 1 x5) (shl32 1 x6)) (shl32 1 x7)) (shl32 1 x8)) ((shl32 1 (mem 65 27)) - 1))), (0, (m2 65 36)), (0, x5), (0, x6), (0, x7), (0, x8), (0, (and32 (or32 (or32 (or32 (shl32 1 x5) (shl32 1 x6)) (shl32 1 x7)) (shl32 1 x8)) ((shl32 1 (mem 65 27)) - 1))), (0, (x4 - (m2 65 36)))]) rfl dX12_lossesFor_217 ?_
                  refine st_iinc (y := (x8 + 1)) (by decide) (i := 8) rfl rfl (lc' := [(2, 65), (0, x1), (0, x2), (0, (and32 (or32 (or32 (or32 (shl32 1 x5) (shl32 1 x6)) (shl32 1 x7)) (shl32 1 x8)) ((shl32 1 (mem 65 27)) - 1))), (0, (m2 65 36)), (0, x5), (0, x6), (0, x7), (0, (x8 + 1)), (0, (and32 (or32 (or32 (or32 (shl32 1 x5) (shl32 1 x6)) (shl32 1 x7)) (shl32 1 x8)) ((shl32 1 (mem 65 27)) - 1))), (0, (x4 - (m2 65 36)))]) rfl dX12_lossesFor_219 ?_
                  refine st_goto 101 (by decide) dX12_lossesFor_222 ?_
                  exact st_locals [(2, 65), (0, x1), (0, x2), (0, (and32 (or32 (or32 (or32 (shl32 1 x5) (shl32 1 x6)) (shl32 1 x7)) (shl32 1 x8)) ((shl32 1 (mem 65 27)) - 1))), (0, (m2 65 36)), (0, x5), (0, x6), (0, x7), (0, (x8 + 1)), (9, 0), (9, 0)] ⟨Or.inr rfl, Or.inr rfl, Or.inr rfl, Or.inr rfl, Or.inr rfl, Or.inr rfl, Or.inr rfl, Or.inr rfl, Or.inr rfl, Or.inl rfl, Or.inl rfl, trivial⟩ (k7 h1 h2 m2 p1 h3 h4 h5 h6 h7 h8)
        · have h4 : ¬ x2 = 0 := by omega
          refine st_aload_n (i := 0) rfl (t := 0) rfl (by decide) dX12_lossesFor_168 ?_
          refine so_getI (v := (m2 65 36)) 65 36 fr_X12_330_11 rfl sh_65 rfl dX12_lossesFor_169 (fun r7 => ?_)
          refine st_iload rfl dX12_lossesFor_172 ?_
          refine st_isub dX12_lossesFor_174 ?_
          refine st_goto 185 (by decide) dX12_lossesFor_175 ?_
          refine st_istore (by decide) (lc' := [(2, 65), (0, x1), (0, x2), (0, x3), (0, x4), (0, x5), (0, x6), (0, x7), (0, x8), (0, (and32 (or32 (or32 (or32 (shl32 1 x5) (shl32 1 x6)) (shl32 1 x7)) (shl32 1 x8)) ((shl32 1 (mem 65 27)) - 1))), (0, ((m2 65 36) - x4))]) rfl dX12_lossesFor_185 ?_
          refine st_aload_n (i := 0) rfl (t := 0) rfl (by decide) dX12_lossesFor_187 ?_
          refine so_getI (v := (m2 65 37)) 65 37 fr_X12_336_11 rfl sh_65 rfl dX12_lossesFor_188 (fun r8 => ?_)
          refine sr_if_ne 219 r8 (by decide) dX12_lossesFor_191 (fun h9 => ?_) (fun h9 => ?_)
          · have h9 : ¬ (m2 65 37) = 0 := by omega
            refine st_iinc (y := (x8 + 1)) (by decide) (i := 8) rfl rfl (lc' := [(2, 65), (0, x1), (0, x2), (0, x3), (0, x4), (0, x5), (0, x6), (0, x7), (0, (x8 + 1)), (0, (and32 (or32 (or32 (or32 (shl32 1 x5) (shl32 1 x6)) (shl32 1 x7)) (shl32 1 x8)) ((shl32 1 (mem 65 27)) - 1))), (0, ((m2 65 36) - x4))]) rfl dX12_lossesFor_219 ?_
            refine st_goto 101 (by decide) dX12_lossesFor_222 ?_
            exact st_locals [(2, 65), (0, x1), (0, x2), (0, x3), (0, x4), (0, x5), (0, x6), (0, x7), (0, (x8 + 1)), (9, 0), (9, 0)] ⟨Or.inr rfl, Or.inr rfl, Or.inr rfl, Or.inr rfl, Or.inr rfl, Or.inr rfl, Or.inr rfl, Or.inr rfl, Or.inr rfl, Or.inl rfl, Or.inl rfl, trivial⟩ (k8 h1 h2 m2 p1 h3 h4 h9)
          · have h9 : (m2 65 37) = 0 := by omega
            refine st_iload rfl dX12_lossesFor_194 ?_
            refine sr_if_gt 210 (s6 h1 h2 m2 p1 h3 h4 h9) (by decide) dX12_lossesFor_196 (fun h10 => ?_) (fun h10 => ?_)
            · have h10 : 0 < ((m2 65 36) - x4) := by omega
              refine st_iload rfl dX12_lossesFor_210 ?_
              refine st_istore_n (i := 3) rfl (by decide) (lc' := [(2, 65), (0, x1), (0, x2), (0, (and32 (or32 (or32 (or32 (shl32 1 x5) (shl32 1 x6)) (shl32 1 x7)) (shl32 1 x8)) ((shl32 1 (mem 65 27)) - 1))), (0, x4), (0, x5), (0, x6), (0, x7), (0, x8), (0, (and32 (or32 (or32 (or32 (shl32 1 x5) (shl32 1 x6)) (shl32 1 x7)) (shl32 1 x8)) ((shl32 1 (mem 65 27)) - 1))), (0, ((m2 65 36) - x4))]) rfl dX12_lossesFor_212 ?_
              refine st_aload_n (i := 0) rfl (t := 0) rfl (by decide) dX12_lossesFor_213 ?_
              refine so_getI (v := (m2 65 36)) 65 36 fr_X12_330_11 rfl sh_65 rfl dX12_lossesFor_214 (fun r9 => ?_)
              refine st_istore (by decide) (lc' := [(2, 65), (0, x1), (0, x2), (0, (and32 (or32 (or32 (or32 (shl32 1 x5) (shl32 1 x6)) (shl32 1 x7)) (shl32 1 x8)) ((shl32 1 (mem 65 27)) - 1))), (0, (m2 65 36)), (0, x5), (0, x6), (0, x7), (0, x8), (0, (and32 (or32 (or32 (or32 (shl32 1 x5) (shl32 1 x6)) (shl32 1 x7)) (shl32 1 x8)) ((shl32 1 (mem 65 27)) - 1))), (0, ((m2 65 36) - x4))]) rfl dX12_lossesFor_217 ?_
              refine st_iinc (y := (x8 + 1)) (by decide) (i := 8) rfl rfl (lc' := [(2, 65), (0, x1), (0, x2), (0, (and32 (or32 (or32 (or32 (shl32 1 x5) (shl32 1 x6)) (shl32 1 x7)) (shl32 1 x8)) ((shl32 1 (mem 65 27)) - 1))), (0, (m2 65 36)), (0, x5), (0, x6), (0, x7), (0, (x8 + 1)), (0, (and32 (or32 (or32 (or32 (shl32 1 x5) (shl32 1 x6)) (shl32 1 x7)) (shl32 1 x8)) ((shl32 1 (mem 65 27)) - 1))), (0, ((m2 65 36) - x4))]) rfl dX12_lossesFor_219 ?_
              refine st_goto 101 (by decide) dX12_lossesFor_222 ?_
              exact st_locals [(2, 65), (0, x1), (0, x2), (0, (and32 (or32 (or32 (or32 (shl32 1 x5) (shl32 1 x6)) (shl32 1 x7)) (shl32 1 x8)) ((shl32 1 (mem 65 27)) - 1))), (0, (m2 65 36)), (0, x5), (0, x6), (0, x7), (0, (x8 + 1)), (9, 0), (9, 0)] ⟨Or.inr rfl, Or.inr rfl, Or.inr rfl, Or.inr rfl, Or.inr rfl, Or.inr rfl, Or.inr rfl, Or.inr rfl, Or.inr rfl, Or.inl rfl, Or.inl rfl, trivial⟩ (k9 h1 h2 m2 p1 h3 h4 h9 h10)
            · have h10 : ((m2 65 36) - x4) ≤ 0 := by omega
              refine st_iload rfl dX12_lossesFor_199 ?_
              refine sr_if_ne 219 (s6 h1 h2 m2 p1 h3 h4 h9) (by decide) dX12_lossesFor_201 (fun h11 => ?_) (fun h11 => ?_)
              · have h11 : ¬ ((m2 65 36) - x4) = 0 := by omega
                refine st_iinc (y := (x8 + 1)) (by decide) (i := 8) rfl rfl (lc' := [(2, 65), (0, x1), (0, x2), (0, x3), (0, x4), (0, x5), (0, x6), (0, x7), (0, (x8 + 1)), (0, (and32 (or32 (or32 (or32 (shl32 1 x5) (shl32 1 x6)) (shl32 1 x7)) (shl32 1 x8)) ((shl32 1 (mem 65 27)) - 1))), (0, ((m2 65 36) - x4))]) rfl dX12_lossesFor_219 ?_
                refine st_goto 101 (by decide) dX12_lossesFor_222 ?_
                exact st_locals [(2, 65), (0, x1), (0, x2), (0, x3), (0, x4), (0, x5), (0, x6), (0, x7), (0, (x8 + 1)), (9, 0), (9, 0)] ⟨Or.inr rfl, Or.inr rfl, Or.inr rfl, Or.inr rfl, Or.inr rfl, Or.inr rfl, Or.inr rfl, Or.inr rfl, Or.inr rfl, Or.inl rfl, Or.inl rfl, trivial⟩ (k10 h1 h2 m2 p1 h3 h4 h9 h10 h11)
              · have h11 : ((m2 65 36) - x4) = 0 := by omega
                refine st_iload rfl dX12_lossesFor_204 ?_
                refine st_iload_n (i := 3) rfl rfl dX12_lossesFor_206 ?_
                refine sr_icmp_ge 219 (and32_rng (or32 (or32 (or32 (shl32 1 x5) (shl32 1 x6)) (shl32 1 x7)) (shl32 1 x8)) ((shl32 1 (mem 65 27)) - 1)) (s3 h1 h2 m2 p1) (by decide) dX12_lossesFor_207 (fun h12 => ?_) (fun h12 => ?_)
                · have h12 : x3 ≤ (and32 (or32 (or32 (or32 (shl32 1 x5) (shl32 1 x6)) (shl32 1 x7)) (shl32 1 x8)) ((shl32 1 (mem 65 27)) - 1)) := by omega
                  refine st_iinc (y := (x8 + 1)) (by decide) (i := 8) rfl rfl (lc' := [(2, 65), (0, x1), (0, x2), (0, x3), (0, x4), (0, x5), (0, x6), (0, x7), (0, (x8 + 1)), (0, (and32 (or32 (or32 (or32 (shl32 1 x5) (shl32 1 x6)) (shl32 1 x7)) (shl32 1 x8)) ((shl32 1 (mem 65 27)) - 1))), (0, ((m2 65 36) - x4))]) rfl dX12_lossesFor_219 ?_
                  refine st_goto 101 (by decide) dX12_lossesFor_222 ?_
                  exact st_locals [(2, 65), (0, x1), (0, x2), (0, x3), (0, x4), (0, x5), (0, x6), (0, x7), (0, (x8 + 1)), (9, 0), (9, 0)] ⟨Or.inr rfl, Or.inr rfl, Or.inr rfl, Or.inr rfl, Or.inr rfl, Or.inr rfl, Or.inr rfl, Or.inr rfl, Or.inr rfl, Or.inl rfl, Or.inl rfl, trivial⟩ (k11 h1 h2 m2 p1 h3 h4 h9 h10 h11 h12)
                · have h12 : (and32 (or32 (or32 (or32 (shl32 1 x5) (shl32 1 x6)) (shl32 1 x7)) (shl32 1 x8)) ((shl32 1 (mem 65 27)) - 1)) < x3 := by omega
                  refine st_iload rfl dX12_lossesFor_210 ?_
                  refine st_istore_n (i := 3) rfl (by decide) (lc' := [(2, 65), (0, x1), (0, x2), (0, (and32 (or32 (or32 (or32 (shl32 1 x5) (shl32 1 x6)) (shl32 1 x7)) (shl32 1 x8)) ((shl32 1 (mem 65 27)) - 1))), (0, x4), (0, x5), (0, x6), (0, x7), (0, x8), (0, (and32 (or32 (or32 (or32 (shl32 1 x5) (shl32 1 x6)) (shl32 1 x7)) (shl32 1 x8)) ((shl32 1 (mem 65 27)) - 1))), (0, ((m2 65 36) - x4))]) rfl dX12_lossesFor_212 ?_
                  refine st_aload_n (i := 0) rfl (t := 0) rfl (by decide) dX12_lossesFor_213 ?_
                  refine so_getI (v := (m2 65 36)) 65 36 fr_X12_330_11 rfl sh_65 rfl dX12_lossesFor_214 (fun r10 => ?_)
                  refine st_istore (by decide) (lc' := [(2, 65), (0, x1), (0, x2), (0, (and32 (or32 (or32 (or32 (shl32 1 x5) (shl32 1 x6)) (shl32 1 x7)) (shl32 1 x8)) ((shl32 1 (mem 65 27)) - 1))), (0, (m2 65 36)), (0, x5), (0, x6), (0, x7), (0, x8), (0, (and32 (or32 (or32 (or32 (shl32 1 x5) (shl32 1 x6)) (shl32 1 x7)) (shl32 1 x8)) ((shl32 1 (mem 65 27)) - 1))), (0, ((m2 65 36) - x4))]) rfl dX12_lossesFor_217 ?_
                  refine st_iinc (y := (x8 + 1)) (by decide) (i := 8) rfl rfl (lc' := [(2, 65), (0, x1), (0, x2), (0, (and32 (or32 (or32 (or32 (shl32 1 x5) (shl32 1 x6)) (shl32 1 x7)) (shl32 1 x8)) ((shl32 1 (mem 65 27)) - 1))), (0, (m2 65 36)), (0, x5), (0, x6), (0, x7), (0, (x8 + 1)), (0, (and32 (or32 (or32 (or32 (shl32 1 x5) (shl32 1 x6)) (shl32 1 x7)) (shl32 1 x8)) ((shl32 1 (mem 65 27)) - 1))), (0, ((m2 65 36) - x4))]) rfl dX12_lossesFor_219 ?_
                  refine st_goto 101 (by decide) dX12_lossesFor_222 ?_
                  exact st_locals [(2, 65), (0, x1), (0, x2), (0, (and32 (or32 (or32 (or32 (shl32 1 x5) (shl32 1 x6)) (shl32 1 x7)) (shl32 1 x8)) ((shl32 1 (mem 65 27)) - 1))), (0, (m2 65 36)), (0, x5), (0, x6), (0, x7), (0, (x8 + 1)), (9, 0), (9, 0)] ⟨Or.inr rfl, Or.inr rfl, Or.inr rfl, Or.inr rfl, Or.inr rfl, Or.inr rfl, Or.inr rfl, Or.inr rfl, Or.inr rfl, Or.inl rfl, Or.inl rfl, trivial⟩ (k12 h1 h2 m2 p1 h3 h4 h9 h10 h11 h12)
      · have h3 : x3 = (-1) := by omega
        refine st_iconst dX12_lossesFor_160 ?_
        refine st_goto 185 (by decide) dX12_lossesFor_161 ?_
        refine st_istore (by decide) (lc' := [(2, 65), (0, x1), (0, x2), (0, x3), (0, x4), (0, x5), (0, x6), (0, x7), (0, x8), (0, (and32 (or32 (or32 (or32 (shl32 1 x5) (shl32 1 x6)) (shl32 1 x7)) (shl32 1 x8)) ((shl32 1 (mem 65 27)) - 1))), (0, 1)]) rfl dX12_lossesFor_185 ?_
        refine st_aload_n (i := 0) rfl (t := 0) rfl (by decide) dX12_lossesFor_187 ?_
        refine so_getI (v := (m2 65 37)) 65 37 fr_X12_336_11 rfl sh_65 rfl dX12_lossesFor_188 (fun r11 => ?_)
        refine sr_if_ne 219 r11 (by decide) dX12_lossesFor_191 (fun h13 => ?_) (fun h13 => ?_)
        · have h13 : ¬ (m2 65 37) = 0 := by omega
          refine st_iinc (y := (x8 + 1)) (by decide) (i := 8) rfl rfl (lc' := [(2, 65), (0, x1), (0, x2), (0, x3), (0, x4), (0, x5), (0, x6), (0, x7), (0, (x8 + 1)), (0, (and32 (or32 (or32 (or32 (shl32 1 x5) (shl32 1 x6)) (shl32 1 x7)) (shl32 1 x8)) ((shl32 1 (mem 65 27)) - 1))), (0, 1)]) rfl dX12_lossesFor_219 ?_
          refine st_goto 101 (by decide) dX12_lossesFor_222 ?_
          exact st_locals [(2, 65), (0, x1), (0, x2), (0, x3), (0, x4), (0, x5), (0, x6), (0, x7), (0, (x8 + 1)), (9, 0), (9, 0)] ⟨Or.inr rfl, Or.inr rfl, Or.inr rfl, Or.inr rfl, Or.inr rfl, Or.inr rfl, Or.inr rfl, Or.inr rfl, Or.inr rfl, Or.inl rfl, Or.inl rfl, trivial⟩ (k13 h1 h2 m2 p1 h3 h13)
        · have h13 : (m2 65 37) = 0 := by omega
          refine st_iload rfl dX12_lossesFor_194 ?_
          refine sr_if_gt 210 ⟨by decide, by decide⟩ (by decide) dX12_lossesFor_196 (fun h => ?_) (fun h => ?_)
          rotate_left
          · exact absurd h (by decide)
          refine st_iload rfl dX12_lossesFor_210 ?_
          refine st_istore_n (i := 3) rfl (by decide) (lc' := [(2, 65), (0, x1), (0, x2), (0, (and32 (or32 (or32 (or32 (shl32 1 x5) (shl32 1 x6)) (shl32 1 x7)) (shl32 1 x8)) ((shl32 1 (mem 65 27)) - 1))), (0, x4), (0, x5), (0, x6), (0, x7), (0, x8), (0, (and32 (or32 (or32 (or32 (shl32 1 x5) (shl32 1 x6)) (shl32 1 x7)) (shl32 1 x8)) ((shl32 1 (mem 65 27)) - 1))), (0, 1)]) rfl dX12_lossesFor_212 ?_
          refine st_aload_n (i := 0) rfl (t := 0) rfl (by decide) dX12_lossesFor_213 ?_
          refine so_getI (v := (m2 65 36)) 65 36 fr_X12_330_11 rfl sh_65 rfl dX12_lossesFor_214 (fun r12 => ?_)
          refine st_istore (by decide) (lc' := [(2, 65), (0, x1), (0, x2), (0, (and32 (or32 (or32 (or32 (shl32 1 x5) (shl32 1 x6)) (shl32 1 x7)) (shl32 1 x8)) ((shl32 1 (mem 65 27)) - 1))), (0, (m2 65 36)), (0, x5), (0, x6), (0, x7), (0, x8), (0, (and32 (or32 (or32 (or32 (shl32 1 x5) (shl32 1 x6)) (shl32 1 x7)) (shl32 1 x8)) ((shl32 1 (mem 65 27)) - 1))), (0, 1)]) rfl dX12_lossesFor_217 ?_
          refine st_iinc (y := (x8 + 1)) (by decide) (i := 8) rfl rfl (lc' := [(2, 65), (0, x1), (0, x2), (0, (and32 (or32 (or32 (or32 (shl32 1 x5) (shl32 1 x6)) (shl32 1 x7)) (shl32 1 x8)) ((shl32 1 (mem 65 27)) - 1))), (0, (m2 65 36)), (0, x5), (0, x6), (0, x7), (0, (x8 + 1)), (0, (and32 (or32 (or32 (or32 (shl32 1 x5) (shl32 1 x6)) (shl32 1 x7)) (shl32 1 x8)) ((shl32 1 (mem 65 27)) - 1))), (0, 1)]) rfl dX12_lossesFor_219 ?_
          refine st_goto 101 (by decide) dX12_lossesFor_222 ?_
          exact st_locals [(2, 65), (0, x1), (0, x2), (0, (and32 (or32 (or32 (or32 (shl32 1 x5) (shl32 1 x6)) (shl32 1 x7)) (shl32 1 x8)) ((shl32 1 (mem 65 27)) - 1))), (0, (m2 65 36)), (0, x5), (0, x6), (0, x7), (0, (x8 + 1)), (9, 0), (9, 0)] ⟨Or.inr rfl, Or.inr rfl, Or.inr rfl, Or.inr rfl, Or.inr rfl, Or.inr rfl, Or.inr rfl, Or.inr rfl, Or.inr rfl, Or.inl rfl, Or.inl rfl, trivial⟩ (k14 h1 h2 m2 p1 h3 h13)
theorem cn_X12_lossesTold {d : Nat} {P : Int → mmM → Prop} {mem : mmM} {x1 x2 x3 : Int} (h : mmT bX12_lossesTold d 0 0 (mQ 0 P) 0 [(2, 65), (0, x1), (0, x2), (0, x3), (9, 0)] [] mS mem) : con 0 bX12_lossesTold d [(2, 65), (0, x1), (0, x2), (0, x3)] mem P := mmC_of [(2, 65), (0, x1), (0, x2), (0, x3), (9, 0)] ok_X12_lossesTold.2.2.2.2 rfl (Nat.le_of_ble_eq_true rfl) h
theorem bk_X12_lossesTold_0 {d : Nat} {d1 : Nat} {P1 : Int → mmM → Prop} {d2 : Nat} {P2 : mmM → Prop} {P : Int → mmM → Prop} {mem : mmM} {x1 x2 x3 : Int}
  (c1 : ¬ (mem 65 27) = 0 → (0 ≤ x1 ∧ x1 ≤ 4) → (0 ≤ x2 ∧ x2 ≤ 1) → con 0 bX12_lossesFor d1 [(2, 65), (0, x1), (0, x3)] mem P1)
  (c2 : ¬ (mem 65 27) = 0 → (0 ≤ x1 ∧ x1 ≤ 4) → (0 ≤ x2 ∧ x2 ≤ 1) → ∀ (v3 : Int), ∀ (m3 : mmM), P1 v3 m3 → ¬ v3 = (-1) → ¬ x2 = 1 → conv bX12_goThrough d2 [(2, 65), (0, v3)] m3 P2)
  (q1 : (mem 65 27) = 0 → P (-1) mem)
  (q2 : ¬ (mem 65 27) = 0 → ¬ (0 ≤ x1 ∧ x1 ≤ 4) → P (-1) mem)
  (q3 : ¬ (mem 65 27) = 0 → (0 ≤ x1 ∧ x1 ≤ 4) → (0 ≤ x2 ∧ x2 ≤ 1) → ∀ (v3 : Int), ∀ (m3 : mmM), P1 v3 m3 → v3 = (-1) → P v3 m3)
  (q4 : ¬ (mem 65 27) = 0 → (0 ≤ x1 ∧ x1 ≤ 4) → (0 ≤ x2 ∧ x2 ≤ 1) → ∀ (v3 : Int), ∀ (m3 : mmM), P1 v3 m3 → ¬ v3 = (-1) → ¬ x2 = 1 → ∀ (m4 : mmM), P2 m4 → P (m4 65 36) m4)
  (q5 : ¬ (mem 65 27) = 0 → (0 ≤ x1 ∧ x1 ≤ 4) → (0 ≤ x2 ∧ x2 ≤ 1) → ∀ (v3 : Int), ∀ (m3 : mmM), P1 v3 m3 → ¬ v3 = (-1) → x2 = 1 → P v3 m3)
  (q6 : ¬ (mem 65 27) = 0 → (0 ≤ x1 ∧ x1 ≤ 4) → ¬ (0 ≤ x2 ∧ x2 ≤ 1) → P (-1) mem)
  (hd_d1 : d1 + 1 ≤ d := by omega)
  (hd_d2 : d2 + 1 ≤ d := by omega)
  (hd2 : 2 ≤ d := by omega)
  (s1 : ¬ (mem 65 27) = 0 → R32 x1 := by intros; first | omega | assumption | solve_by_elim)
  (s2 : ¬ (mem 65 27) = 0 → (0 ≤ x1 ∧ x1 ≤ 4) → R32 x2 := by intros; first | omega | assumption | solve_by_elim)
  (s3 : ¬ (mem 65 27) = 0 → (0 ≤ x1 ∧ x1 ≤ 4) → (0 ≤ x2 ∧ x2 ≤ 1) → ∀ (v3 : Int), ∀ (m3 : mmM), P1 v3 m3 → R32 v3 := by intros; first | omega | assumption | solve_by_elim)
  : mmT bX12_lossesTold d 0 0 (mQ 0 P) 0 [(2, 65), (0, x1), (0, x2), (0, x3), (9, 0)] [] mS mem := by
  refine st_aload_n (i := 0) rfl (t := 0) rfl (by decide) dX12_lossesTold_0 ?_
  refine so_getI (v := (mem 65 27)) 65 27 fr_X12_268_11 rfl sh_65 rfl dX12_lossesTold_1 (fun r1 => ?_)
  refine sr_if_eq 25 r1 (by decide) dX12_lossesTold_4 (fun h1 => ?_) (fun h1 => ?_)
  · have h1 : (mem 65 27) = 0 := by omega
    refine st_iconst dX12_lossesTold_25 ?_
    exact st_ireturn rfl dX12_lossesTold_26 (mQ.ret (q1 h1))
  · have h1 : ¬ (mem 65 27) = 0 := by omega
    refine st_iload_n (i := 1) rfl rfl dX12_lossesTold_7 ?_
    refine st_iconst dX12_lossesTold_8 ?_
    refine st_iconst dX12_lossesTold_9 ?_
    refine st_callS (kc2 := 0) (ks2 := 0) (av := [(0, x1), (0, 0), (0, 4)]) mr_X12_229 ok_X12_in (c_X12_in mem x1 0 4 ((s1 h1)) (⟨by decide, by decide⟩) (⟨by decide, by decide⟩)) rfl rfl hd2 (Nat.le_refl 0) (Nat.le_refl 0) (Nat.le_of_ble_eq_true rfl) dX12_lossesTold_10 (mQ.elim fun v1 m1 hp => ?_)
    obtain ⟨hpv, hpm⟩ := hp
    subst hpv
    have hpm := hpm.symm
    subst hpm
    refine so_ifeqB 25 (by decide) dX12_lossesTold_13 (fun h2 => ?_) (fun h2 => ?_)
    · have h2 : ¬ (0 ≤ x1 ∧ x1 ≤ 4) := h2
      refine st_iconst dX12_lossesTold_25 ?_
      exact st_ireturn rfl dX12_lossesTold_26 (mQ.ret (q2 h1 h2))
    · have h2 : (0 ≤ x1 ∧ x1 ≤ 4) := h2
      refine st_iload_n (i := 2) rfl rfl dX12_lossesTold_16 ?_
      refine st_iconst dX12_lossesTold_17 ?_
      refine st_iconst dX12_lossesTold_18 ?_
      refine st_callS (kc2 := 0) (ks2 := 0) (av := [(0, x2), (0, 0), (0, 1)]) mr_X12_229 ok_X12_in (c_X12_in mem x2 0 1 ((s2 h1 h2)) (⟨by decide, by decide⟩) (⟨by decide, by decide⟩)) rfl rfl hd2 (Nat.le_refl 0) (Nat.le_refl 0) (Nat.le_of_ble_eq_true rfl) dX12_lossesTold_19 (mQ.elim fun v2 m2 hp => ?_)
      obtain ⟨hpv, hpm⟩ := hp
      subst hpv
      have hpm := hpm.symm
      subst hpm
      refine so_ifneB 27 (by decide) dX12_lossesTold_22 (fun h3 => ?_) (fun h3 => ?_)
      · have h3 : (0 ≤ x2 ∧ x2 ≤ 1) := h3
        refine st_aload_n (i := 0) rfl (t := 0) rfl (by decide) dX12_lossesTold_27 ?_
        refine st_iload_n (i := 1) rfl rfl dX12_lossesTold_28 ?_
        refine st_iload_n (i := 3) rfl rfl dX12_lossesTold_29 ?_
        refine st_callV (kc2 := 0) (ks2 := 0) (av := [(0, x1), (0, x3)]) 65 11 mr_X12_426 ok_X12_lossesFor (c1 h1 h2 h3) rfl sh_65 ⟨_, rfl, rfl, by decide⟩ rfl rfl hd_d1 (Nat.le_refl 0) (Nat.le_refl 0) (Nat.le_of_ble_eq_true rfl) dX12_lossesTold_30 (mQ.elim fun v3 m3 p1 => ?_)
        refine st_istore (by decide) (lc' := [(2, 65), (0, x1), (0, x2), (0, x3), (0, v3)]) rfl dX12_lossesTold_33 ?_
        refine st_iload rfl dX12_lossesTold_35 ?_
        refine st_iconst dX12_lossesTold_37 ?_
        refine sr_icmp_eq 46 (s3 h1 h2 h3 v3 m3 p1) ⟨by decide, by decide⟩ (by decide) dX12_lossesTold_38 (fun h4 => ?_) (fun h4 => ?_)
        · have h4 : v3 = (-1) := by omega
          refine st_iload rfl dX12_lossesTold_46 ?_
          exact st_ireturn rfl dX12_lossesTold_48 (mQ.ret (q3 h1 h2 h3 v3 m3 p1 h4))
        · have h4 : ¬ v3 = (-1) := by omega
          refine st_iload_n (i := 2) rfl rfl dX12_lossesTold_41 ?_
          refine st_iconst dX12_lossesTold_42 ?_
          refine sr_icmp_ne 49 (s2 h1 h2) ⟨by decide, by decide⟩ (by decide) dX12_lossesTold_43 (fun h5 => ?_) (fun h5 => ?_)
          · have h5 : ¬ x2 = 1 := by omega
            refine st_aload_n (i := 0) rfl (t := 0) rfl (by decide) dX12_lossesTold_49 ?_
            refine st_iload rfl dX12_lossesTold_50 ?_
            refine st_callV (kc2 := 0) (ks2 := 0) (av := [(0, v3)]) 65 11 mr_X12_354 ok_X12_goThrough (c2 h1 h2 h3 v3 m3 p1 h4 h5) rfl sh_65 ⟨_, rfl, rfl, by decide⟩ rfl rfl hd_d2 (Nat.le_refl 0) (Nat.le_refl 0) (Nat.le_of_ble_eq_true rfl) dX12_lossesTold_52 (mQv.elim fun m4 p2 => ?_)
            refine st_aload_n (i := 0) rfl (t := 0) rfl (by decide) dX12_lossesTold_55 ?_
            refine so_getI (v := (m4 65 36)) 65 36 fr_X12_330_11 rfl sh_65 rfl dX12_lossesTold_56 (fun r2 => ?_)
            exact st_ireturn rfl dX12_lossesTold_59 (mQ.ret (q4 h1 h2 h3 v3 m3 p1 h4 h5 m4 p2))
          · have h5 : x2 = 1 := by omega
            refine st_iload rfl dX12_lossesTold_46 ?_
            exact st_ireturn rfl dX12_lossesTold_48 (mQ.ret (q5 h1 h2 h3 v3 m3 p1 h4 h5))
      · have h3 : ¬ (0 ≤ x2 ∧ x2 ≤ 1) := h3
        refine st_iconst dX12_lossesTold_25 ?_
        exact st_ireturn rfl dX12_lossesTold_26 (mQ.ret (q6 h1 h2 h3))
theorem cn_X12_shortest {d : Nat} {P : Int → mmM → Prop} {mem : mmM} {x1 x2 : Int} (h : mmT bX12_shortest d 0 0 (mQ 0 P) 0 [(2, 65), (0, x1), (0, x2)] [] mS mem) : con 0 bX12_shortest d [(2, 65), (0, x1), (0, x2)] mem P := mmC_of [(2, 65), (0, x1), (0, x2)] ok_X12_shortest.2.2.2.2 rfl (Nat.le_of_ble_eq_true rfl) h
theorem bk_X12_shortest_0 {d : Nat} {d1 : Nat} {P1 : Int → mmM → Prop} {P : Int → mmM → Prop} {mem : mmM} {x1 x2 : Int}
  (c1 : con 0 bX12_lossesTold d1 [(2, 65), (0, x1), (0, x2), (0, 0)] mem P1)
  (q1 : ∀ (v1 : Int), ∀ (m1 : mmM), P1 v1 m1 → P v1 m1)
  (hd_d1 : d1 + 1 ≤ d := by omega)
  : mmT bX12_shortest d 0 0 (mQ 0 P) 0 [(2, 65), (0, x1), (0, x2)] [] mS mem := by
  refine st_aload_n (i := 0) rfl (t := 0) rfl (by decide) dX12_shortest_0 ?_
  refine st_iload_n (i := 1) rfl rfl dX12_shortest_1 ?_
  refine st_iload_n (i := 2) rfl rfl dX12_shortest_2 ?_
  refine st_iconst dX12_shortest_3 ?_
  refine st_callV (kc2 := 0) (ks2 := 0) (av := [(0, x1), (0, x2), (0, 0)]) 65 11 mr_X12_430 ok_X12_lossesTold c1 rfl sh_65 ⟨_, rfl, rfl, by decide⟩ rfl rfl hd_d1 (Nat.le_refl 0) (Nat.le_refl 0) (Nat.le_of_ble_eq_true rfl) dX12_shortest_4 (mQ.elim fun v1 m1 p1 => ?_)
  exact st_ireturn rfl dX12_shortest_7 (mQ.ret (q1 v1 m1 p1))
theorem cn_X12_longest {d : Nat} {P : Int → mmM → Prop} {mem : mmM} {x1 x2 : Int} (h : mmT bX12_longest d 0 0 (mQ 0 P) 0 [(2, 65), (0, x1), (0, x2)] [] mS mem) : con 0 bX12_longest d [(2, 65), (0, x1), (0, x2)] mem P := mmC_of [(2, 65), (0, x1), (0, x2)] ok_X12_longest.2.2.2.2 rfl (Nat.le_of_ble_eq_true rfl) h
theorem bk_X12_longest_0 {d : Nat} {d1 : Nat} {P1 : Int → mmM → Prop} {P : Int → mmM → Prop} {mem : mmM} {x1 x2 : Int}
  (c1 : con 0 bX12_lossesTold d1 [(2, 65), (0, x1), (0, x2), (0, 1)] mem P1)
  (q1 : ∀ (v1 : Int), ∀ (m1 : mmM), P1 v1 m1 → P v1 m1)
  (hd_d1 : d1 + 1 ≤ d := by omega)
  : mmT bX12_longest d 0 0 (mQ 0 P) 0 [(2, 65), (0, x1), (0, x2)] [] mS mem := by
  refine st_aload_n (i := 0) rfl (t := 0) rfl (by decide) dX12_longest_0 ?_
  refine st_iload_n (i := 1) rfl rfl dX12_longest_1 ?_
  refine st_iload_n (i := 2) rfl rfl dX12_longest_2 ?_
  refine st_iconst dX12_longest_3 ?_
  refine st_callV (kc2 := 0) (ks2 := 0) (av := [(0, x1), (0, x2), (0, 1)]) 65 11 mr_X12_430 ok_X12_lossesTold c1 rfl sh_65 ⟨_, rfl, rfl, by decide⟩ rfl rfl hd_d1 (Nat.le_refl 0) (Nat.le_refl 0) (Nat.le_of_ble_eq_true rfl) dX12_longest_4 (mQ.elim fun v1 m1 p1 => ?_)
  exact st_ireturn rfl dX12_longest_7 (mQ.ret (q1 v1 m1 p1))
def lossP (n : Int) (to : Int → Int) (x1 long v : Int) : Prop := (0 ≤ v ∧ v < p2 n) ∧ popc v ≤ x1 ∧ ¬ (rnS n to x1.toNat 0 v).1 = -1 ∧ ∀ L, (0 ≤ L ∧ L < p2 n) → popc L ≤ x1 → ¬ (rnS n to x1.toNat 0 L).1 = -1 → leqE long ((rnS n to x1.toNat 0 v).1, v) ((rnS n to x1.toNat 0 L).1, L)
theorem c_X12_lossesFor (mem : mmM) (x1 x2 : Int) (hp : playM mem) (h1 : 0 ≤ x1 ∧ x1 ≤ 4) (h2 : x2 = 0 ∨ x2 = 1) : con 0 bX12_lossesFor 6 [(2, 65), (0, x1), (0, x2)] mem (fun v m => lossP (mem 65 27) (leapM mem) x1 x2 v ∧ gtFr mem m) := by
  have hn := hp.1
  have ht : toP (mem 65 27) (leapM mem) := fun i a b => leapM_bnd ⟨a, b⟩
  have pn : p2 (mem 65 27) ≤ 16777216 := p2_24 hn.2
  generalize hQ : (fun (v : Int) (m : mmM) => lossP (mem 65 27) (leapM mem) x1 x2 v ∧ gtFr mem m) = Q
  have ek : ((x1.toNat : Nat) : Int) = x1 := by omega
  -- the innermost loop
  have L4 : ∀ (D : Int → Prop) (a b c : Int), (0 ≤ a ∧ a ≤ mem 65 27) → (0 ≤ b ∧ b ≤ mem 65 27) → (0 ≤ c ∧ c ≤ mem 65 27) → (∀ m x3 x4, gtFr mem m → mInv (mem 65 27) (leapM mem) x1.toNat x2 x3 x4 (fun L => D L ∨ ∃ d, lowQ (mem 65 27) c ≤ d ∧ d ≤ mem 65 27 ∧ L = setQ (mem 65 27) a b c d) → mmT bX12_lossesFor 6 0 0 (mQ 0 Q) 70 [(2, 65), (0, x1), (0, x2), (0, x3), (0, x4), (0, a), (0, b), (0, c + 1), (9, 0), (9, 0), (9, 0)] [] mS m) → ∀ (t : Nat) (d : Int), d + t = mem 65 27 + 1 → lowQ (mem 65 27) c ≤ d → 0 ≤ d → ∀ m x3 x4, gtFr mem m → mInv (mem 65 27) (leapM mem) x1.toNat x2 x3 x4 (fun L => D L ∨ ∃ d', lowQ (mem 65 27) c ≤ d' ∧ d' < d ∧ L = setQ (mem 65 27) a b c d') → mmT bX12_lossesFor 6 0 0 (mQ 0 Q) 101 [(2, 65), (0, x1), (0, x2), (0, x3), (0, x4), (0, a), (0, b), (0, c), (0, d), (9, 0), (9, 0)] [] mS m := by
    intro D a b c ha hb hc nx t
    induction t with
    | zero =>
      intro d hd hlo h0 m x3 x4 f h
      have e27 := (f.play hp).2.1
      refine bk_X12_lossesFor_101 (d1 := 1) (P1 := fun _ => True) (fun z => by omega) (fun z => nx m x3 x4 f (mInv_less h (fun L q => q.imp id (fun ⟨d', q1, q2, q3⟩ => ⟨d', q1, by omega, q3⟩)))) (fun z => by omega) (fun z => by omega) (fun z => by omega) (fun z => by omega) (fun z => by omega) (fun z => by omega) (fun z => by omega) (fun z => by omega) (fun z => by omega) (fun z => by omega) (fun z => by omega) (fun z => by omega) (fun z => by omega) (s2 := fun z => by omega) (s3 := fun z => by omega) (s4 := fun z => by omega) (s5 := fun z => by omega) (s6 := fun z => by omega)
    | succ t iht =>
      intro d hd hlo h0 m x3 x4 f h
      have pl := f.play hp
      have e27 := pl.2.1
      have S := setQ_tb (a := a) (b := b) (c := c) (d := d) hn ha hb hc (by omega)
      have bc := bcS_eq (x := setQ (mem 65 27) a b c d) S.1.1 (by omega)
      have ok := rnS_ok hn ht x1.toNat 0 (setQ (mem 65 27) a b c d) (by omega) S.1
      have same : ∀ m', gtFr mem m' → ((0 ≤ setQ (mem 65 27) a b c d ∧ setQ (mem 65 27) a b c d < p2 (mem 65 27)) → popc (setQ (mem 65 27) a b c d) ≤ ((x1.toNat : Nat) : Int) → (rnS (mem 65 27) (leapM mem) x1.toNat 0 (setQ (mem 65 27) a b c d)).1 = -1 ∨ (¬ x3 = -1 ∧ leqE x2 (x4, x3) ((rnS (mem 65 27) (leapM mem) x1.toNat 0 (setQ (mem 65 27) a b c d)).1, setQ (mem 65 27) a b c d))) → mmT bX12_lossesFor 6 0 0 (mQ 0 Q) 101 [(2, 65), (0, x1), (0, x2), (0, x3), (0, x4), (0, a), (0, b), (0, c), (0, d + 1), (9, 0), (9, 0)] [] mS m' := by
        intro m' f' hS
        refine iht (d + 1) (by omega) (by omega) (by omega) m' x3 x4 f' (mInv_less (mInv_same h hS) (fun L q => ?_))
        rcases q with q | ⟨d', q1, q2, q3⟩
        · exact Or.inl (Or.inl q)
        · by_cases e : d' = d
          · rw [e] at q3
            exact Or.inr q3
          · exact Or.inl (Or.inr ⟨d', q1, by omega, q3⟩)
      have newb : ∀ (m' : mmM) (y : Int), gtFr mem m' → popc (setQ (mem 65 27) a b c d) ≤ ((x1.toNat : Nat) : Int) → ¬ (rnS (mem 65 27) (leapM mem) x1.toNat 0 (setQ (mem 65 27) a b c d)).1 = -1 → y = (rnS (mem 65 27) (leapM mem) x1.toNat 0 (setQ (mem 65 27) a b c d)).1 → (¬ x3 = -1 → leqE x2 ((rnS (mem 65 27) (leapM mem) x1.toNat 0 (setQ (mem 65 27) a b c d)).1, setQ (mem 65 27) a b c d) (x4, x3)) → mmT bX12_lossesFor 6 0 0 (mQ 0 Q) 101 [(2, 65), (0, x1), (0, x2), (0, setQ (mem 65 27) a b c d), (0, y), (0, a), (0, b), (0, c), (0, d + 1), (9, 0), (9, 0)] [] mS m' := by
        intro m' y f' hpc hne hy hb'
        rw [hy]
        refine iht (d + 1) (by omega) (by omega) (by omega) m' _ _ f' (mInv_less (mInv_new h ⟨S.1, hpc, hne⟩ hb') (fun L q => ?_))
        rcases q with q | ⟨d', q1, q2, q3⟩
        · exact Or.inl (Or.inl q)
        · by_cases e : d' = d
          · rw [e] at q3
            exact Or.inr q3
          · exact Or.inl (Or.inr ⟨d', q1, by omega, q3⟩)
      have xb : ¬ x3 = -1 → (0 ≤ x3 ∧ x3 < p2 (mem 65 27)) ∧ (0 ≤ x4 ∧ x4 ≤ 120) := by
        intro z
        rcases h with ⟨q, -⟩ | ⟨q, -⟩
        · exact absurd q z
        · have o := rnS_ok hn ht x1.toNat 0 x3 (by omega) q.1
          refine ⟨q.1, ?_⟩
          rcases o with o | o
          · exact absurd o q.2.2.1
          · have := o.1
            have := q.2.2.2
            omega
      have x3r : R32 x3 := by
        by_cases z : x3 = -1
        · omega
        · have := xb z
          omega
      have gq : ∀ (S' : Int), S' = and32 (or32 (or32 (or32 (shl32 1 a) (shl32 1 b)) (shl32 1 c)) (shl32 1 d)) ((shl32 1 (m 65 27)) - 1) → S' = setQ (mem 65 27) a b c d := fun S' e => by rw [e, e27]; rfl
      have eS := gq _ rfl
      have go : bcS (setQ (mem 65 27) a b c d) ≤ x1 → conv bX12_goThrough 5 [(2, 65), (0, setQ (mem 65 27) a b c d)] m (fun m2 => gtFr mem m2 ∧ (((rnS (mem 65 27) (leapM mem) x1.toNat 0 (setQ (mem 65 27) a b c d)).1 = -1 ∧ ¬ m2 65 37 = 0) ∨ (¬ (rnS (mem 65 27) (leapM mem) x1.toNat 0 (setQ (mem 65 27) a b c d)).1 = -1 ∧ m2 65 37 = 0 ∧ m2 65 36 = (rnS (mem 65 27) (leapM mem) x1.toNat 0 (setQ (mem 65 27) a b c d)).1))) := by
        intro z
        refine conv.mono (c_X12_goThrough m (setQ (mem 65 27) a b c d) pl.1 (by omega)) (fun m2 w => ⟨f.trans ?_, ?_⟩)
        · obtain ⟨k, -, h2, -⟩ := w
          exact ⟨h2.1, h2.2.1⟩
        · have told := ev_told (k := x1.toNat) pl.1 w (by rw [e27]; exact S.1) (by omega) (by omega)
          rw [e27, pl.2.2] at told
          exact told
      have pc : bcS (setQ (mem 65 27) a b c d) ≤ x1 → popc (setQ (mem 65 27) a b c d) ≤ ((x1.toNat : Nat) : Int) := fun z => by omega
      have r36 : ∀ m2 : mmM, ((rnS (mem 65 27) (leapM mem) x1.toNat 0 (setQ (mem 65 27) a b c d)).1 = -1 ∧ ¬ m2 65 37 = 0) ∨ (¬ (rnS (mem 65 27) (leapM mem) x1.toNat 0 (setQ (mem 65 27) a b c d)).1 = -1 ∧ m2 65 37 = 0 ∧ m2 65 36 = (rnS (mem 65 27) (leapM mem) x1.toNat 0 (setQ (mem 65 27) a b c d)).1) → m2 65 37 = 0 → (¬ (rnS (mem 65 27) (leapM mem) x1.toNat 0 (setQ (mem 65 27) a b c d)).1 = -1) ∧ m2 65 36 = (rnS (mem 65 27) (leapM mem) x1.toNat 0 (setQ (mem 65 27) a b c d)).1 ∧ (0 ≤ m2 65 36 ∧ m2 65 36 ≤ 120) := by
        intro m2 w z
        rcases w with w | w
        · exact absurd z w.2
        · refine ⟨w.1, w.2.2, ?_⟩
          rcases ok with o | o
          · exact absurd o w.1
          · have := o.1
            have := w.2.2
            omega
      have bad : ∀ m2 : mmM, ((rnS (mem 65 27) (leapM mem) x1.toNat 0 (setQ (mem 65 27) a b c d)).1 = -1 ∧ ¬ m2 65 37 = 0) ∨ (¬ (rnS (mem 65 27) (leapM mem) x1.toNat 0 (setQ (mem 65 27) a b c d)).1 = -1 ∧ m2 65 37 = 0 ∧ m2 65 36 = (rnS (mem 65 27) (leapM mem) x1.toNat 0 (setQ (mem 65 27) a b c d)).1) → ¬ m2 65 37 = 0 → (rnS (mem 65 27) (leapM mem) x1.toNat 0 (setQ (mem 65 27) a b c d)).1 = -1 := by
        intro m2 w z
        rcases w with w | w
        · exact w.1
        · exact absurd w.2.1 z
      refine bk_X12_lossesFor_101 (d1 := 5) (P1 := fun m2 => gtFr mem m2 ∧ (((rnS (mem 65 27) (leapM mem) x1.toNat 0 (setQ (mem 65 27) a b c d)).1 = -1 ∧ ¬ m2 65 37 = 0) ∨ (¬ (rnS (mem 65 27) (leapM mem) x1.toNat 0 (setQ (mem 65 27) a b c d)).1 = -1 ∧ m2 65 37 = 0 ∧ m2 65 36 = (rnS (mem 65 27) (leapM mem) x1.toNat 0 (setQ (mem 65 27) a b c d)).1))) (fun z z2 => ?_) (fun z => by omega) (fun z z2 => ?_) (fun z z2 m2 w z3 z4 z5 => same m2 w.1 (fun _ _ => Or.inl (bad m2 w.2 z5))) (fun z z2 m2 w z3 z4 z5 z6 => ?_) (fun z z2 m2 w z3 z4 z5 z6 z7 => same m2 w.1 (fun _ _ => Or.inr ⟨z3, ?_⟩)) (fun z z2 m2 w z3 z4 z5 z6 z7 z8 => same m2 w.1 (fun _ _ => Or.inr ⟨z3, ?_⟩)) (fun z z2 m2 w z3 z4 z5 z6 z7 z8 => ?_) (fun z z2 m2 w z3 z4 z5 => same m2 w.1 (fun _ _ => Or.inl (bad m2 w.2 z5))) (fun z z2 m2 w z3 z4 z5 z6 => ?_) (fun z z2 m2 w z3 z4 z5 z6 z7 => same m2 w.1 (fun _ _ => Or.inr ⟨z3, ?_⟩)) (fun z z2 m2 w z3 z4 z5 z6 z7 z8 => same m2 w.1 (fun _ _ => Or.inr ⟨z3, ?_⟩)) (fun z z2 m2 w z3 z4 z5 z6 z7 z8 => ?_) (fun z z2 m2 w z3 z4 => same m2 w.1 (fun _ _ => Or.inl (bad m2 w.2 z4))) (fun z z2 m2 w z3 z4 => ?_) (s2 := fun _ => by omega) (s3 := fun _ _ _ _ => x3r) (s4 := fun _ _ _ _ _ => by omega) (s5 := fun z z2 m2 w z3 z4 z5 => by have := (r36 m2 w.2 z5).2.2; have := xb z3; omega) (s6 := fun z z2 m2 w z3 z4 z5 => by have := (r36 m2 w.2 z5).2.2; have := xb z3; omega)
      · rw [eS] at z2 ⊢
        exact go z2
      · rw [eS] at z2
        exact same m f (fun _ hq => by omega)
      · rw [eS] at z2 ⊢
        have r := r36 m2 w.2 z5
        refine newb m2 (m2 65 36) w.1 (pc z2) r.1 r.2.1 (fun _ => ?_)
        unfold leqE
        rw [if_pos z4]
        left
        show (rnS (mem 65 27) (leapM mem) x1.toNat 0 (setQ (mem 65 27) a b c d)).1 < x4
        omega
      · have r := r36 m2 w.2 z5
        unfold leqE
        rw [if_pos z4]
        left
        show x4 < (rnS (mem 65 27) (leapM mem) x1.toNat 0 (setQ (mem 65 27) a b c d)).1
        omega
      · rw [eS] at z8
        have r := r36 m2 w.2 z5
        exact Or.inr ⟨by show x4 = (rnS (mem 65 27) (leapM mem) x1.toNat 0 (setQ (mem 65 27) a b c d)).1; omega, z8⟩
      · rw [eS] at z2 z8 ⊢
        have r := r36 m2 w.2 z5
        exact newb m2 (m2 65 36) w.1 (pc z2) r.1 r.2.1 (fun _ => Or.inr ⟨by show (rnS (mem 65 27) (leapM mem) x1.toNat 0 (setQ (mem 65 27) a b c d)).1 = x4; omega, by show setQ (mem 65 27) a b c d ≤ x3; omega⟩)
      · rw [eS] at z2 ⊢
        have r := r36 m2 w.2 z5
        refine newb m2 (m2 65 36) w.1 (pc z2) r.1 r.2.1 (fun _ => ?_)
        unfold leqE
        rw [if_neg z4]
        left
        show x4 < (rnS (mem 65 27) (leapM mem) x1.toNat 0 (setQ (mem 65 27) a b c d)).1
        omega
      · have r := r36 m2 w.2 z5
        unfold leqE
        rw [if_neg z4]
        left
        show (rnS (mem 65 27) (leapM mem) x1.toNat 0 (setQ (mem 65 27) a b c d)).1 < x4
        omega
      · rw [eS] at z8
        have r := r36 m2 w.2 z5
        exact Or.inr ⟨by show x4 = (rnS (mem 65 27) (leapM mem) x1.toNat 0 (setQ (mem 65 27) a b c d)).1; omega, z8⟩
      · rw [eS] at z2 z8 ⊢
        have r := r36 m2 w.2 z5
        exact newb m2 (m2 65 36) w.1 (pc z2) r.1 r.2.1 (fun _ => Or.inr ⟨by show (rnS (mem 65 27) (leapM mem) x1.toNat 0 (setQ (mem 65 27) a b c d)).1 = x4; omega, by show setQ (mem 65 27) a b c d ≤ x3; omega⟩)
      · rw [eS] at z2 ⊢
        have r := r36 m2 w.2 z4
        exact newb m2 (m2 65 36) w.1 (pc z2) r.1 r.2.1 (fun z5 => absurd z3 z5)
  have lb : ∀ a, 0 ≤ a → a ≤ mem 65 27 → 0 ≤ lowQ (mem 65 27) a ∧ lowQ (mem 65 27) a ≤ mem 65 27 := by
    intro a a0 a1
    unfold lowQ
    split <;> omega
  have L3 : ∀ (D : Int → Prop) (a b : Int), (0 ≤ a ∧ a ≤ mem 65 27) → (0 ≤ b ∧ b ≤ mem 65 27) → (∀ m x3 x4, gtFr mem m → mInv (mem 65 27) (leapM mem) x1.toNat x2 x3 x4 (fun L => D L ∨ ∃ c d, (lowQ (mem 65 27) b ≤ c ∧ c ≤ mem 65 27) ∧ (lowQ (mem 65 27) c ≤ d ∧ d ≤ mem 65 27) ∧ L = setQ (mem 65 27) a b c d) → mmT bX12_lossesFor 6 0 0 (mQ 0 Q) 39 [(2, 65), (0, x1), (0, x2), (0, x3), (0, x4), (0, a), (0, b + 1), (9, 0), (9, 0), (9, 0), (9, 0)] [] mS m) → ∀ (t : Nat) (c : Int), c + t = mem 65 27 + 1 → lowQ (mem 65 27) b ≤ c → 0 ≤ c → ∀ m x3 x4, gtFr mem m → mInv (mem 65 27) (leapM mem) x1.toNat x2 x3 x4 (fun L => D L ∨ ∃ c' d, (lowQ (mem 65 27) b ≤ c' ∧ c' < c) ∧ (lowQ (mem 65 27) c' ≤ d ∧ d ≤ mem 65 27) ∧ L = setQ (mem 65 27) a b c' d) → mmT bX12_lossesFor 6 0 0 (mQ 0 Q) 70 [(2, 65), (0, x1), (0, x2), (0, x3), (0, x4), (0, a), (0, b), (0, c), (9, 0), (9, 0), (9, 0)] [] mS m := by
    intro D a b ha hb nx t
    induction t with
    | zero =>
      intro c hc hlo h0 m x3 x4 f h
      have e27 := (f.play hp).2.1
      refine bk_X12_lossesFor_70 (fun z => nx m x3 x4 f (mInv_less h (fun L q => q.imp id (fun ⟨c', d, q1, q2, q3⟩ => ⟨c', d, by omega, q2, q3⟩)))) (fun z => by omega) (fun z => by omega)
    | succ t iht =>
      intro c hc hlo h0 m x3 x4 f h
      have e27 := (f.play hp).2.1
      have lc := lb c h0 (by omega)
      have ent : mmT bX12_lossesFor 6 0 0 (mQ 0 Q) 101 [(2, 65), (0, x1), (0, x2), (0, x3), (0, x4), (0, a), (0, b), (0, c), (0, lowQ (mem 65 27) c), (9, 0), (9, 0)] [] mS m := by
        refine L4 (fun L => D L ∨ ∃ c' d, (lowQ (mem 65 27) b ≤ c' ∧ c' < c) ∧ (lowQ (mem 65 27) c' ≤ d ∧ d ≤ mem 65 27) ∧ L = setQ (mem 65 27) a b c' d) a b c ha hb (by omega) (fun m' y3 y4 f' h' => iht (c + 1) (by omega) (by omega) (by omega) m' y3 y4 f' (mInv_less h' (fun L q => ?_))) (mem 65 27 + 1 - lowQ (mem 65 27) c).toNat (lowQ (mem 65 27) c) (by omega) (Int.le_refl _) lc.1 m x3 x4 f (mInv_less h (fun L q => ?_))
        · rcases q with q | ⟨c', d, q1, q2, q3⟩
          · exact Or.inl (Or.inl q)
          · by_cases e : c' = c
            · rw [e] at q2 q3
              exact Or.inr ⟨d, q2.1, q2.2, q3⟩
            · exact Or.inl (Or.inr ⟨c', d, by omega, q2, q3⟩)
        · rcases q with q | ⟨d', q1, q2, q3⟩
          · exact q
          · omega
      refine bk_X12_lossesFor_70 (fun z => by omega) (fun z z2 => ?_) (fun z z2 => ?_)
      · unfold lowQ at ent
        rw [if_neg (by omega)] at ent
        exact ent
      · unfold lowQ at ent
        rw [if_pos (by omega)] at ent
        rw [e27]
        exact ent
  have L2 : ∀ (D : Int → Prop) (a : Int), (0 ≤ a ∧ a ≤ mem 65 27) → (∀ m x3 x4, gtFr mem m → mInv (mem 65 27) (leapM mem) x1.toNat x2 x3 x4 (fun L => D L ∨ ∃ b c d, (lowQ (mem 65 27) a ≤ b ∧ b ≤ mem 65 27) ∧ (lowQ (mem 65 27) b ≤ c ∧ c ≤ mem 65 27) ∧ (lowQ (mem 65 27) c ≤ d ∧ d ≤ mem 65 27) ∧ L = setQ (mem 65 27) a b c d) → mmT bX12_lossesFor 6 0 0 (mQ 0 Q) 8 [(2, 65), (0, x1), (0, x2), (0, x3), (0, x4), (0, a + 1), (9, 0), (9, 0), (9, 0), (9, 0), (9, 0)] [] mS m) → ∀ (t : Nat) (b : Int), b + t = mem 65 27 + 1 → lowQ (mem 65 27) a ≤ b → 0 ≤ b → ∀ m x3 x4, gtFr mem m → mInv (mem 65 27) (leapM mem) x1.toNat x2 x3 x4 (fun L => D L ∨ ∃ b' c d, (lowQ (mem 65 27) a ≤ b' ∧ b' < b) ∧ (lowQ (mem 65 27) b' ≤ c ∧ c ≤ mem 65 27) ∧ (lowQ (mem 65 27) c ≤ d ∧ d ≤ mem 65 27) ∧ L = setQ (mem 65 27) a b' c d) → mmT bX12_lossesFor 6 0 0 (mQ 0 Q) 39 [(2, 65), (0, x1), (0, x2), (0, x3), (0, x4), (0, a), (0, b), (9, 0), (9, 0), (9, 0), (9, 0)] [] mS m := by
    intro D a ha nx t
    induction t with
    | zero =>
      intro b hb hlo h0 m x3 x4 f h
      have e27 := (f.play hp).2.1
      refine bk_X12_lossesFor_39 (fun z => nx m x3 x4 f (mInv_less h (fun L q => q.imp id (fun ⟨b', c, d, q1, q2⟩ => ⟨b', c, d, by omega, q2⟩)))) (fun z => by omega) (fun z => by omega)
    | succ t iht =>
      intro b hb hlo h0 m x3 x4 f h
      have e27 := (f.play hp).2.1
      have lc := lb b h0 (by omega)
      have ent : mmT bX12_lossesFor 6 0 0 (mQ 0 Q) 70 [(2, 65), (0, x1), (0, x2), (0, x3), (0, x4), (0, a), (0, b), (0, lowQ (mem 65 27) b), (9, 0), (9, 0), (9, 0)] [] mS m := by
        refine L3 (fun L => D L ∨ ∃ b' c d, (lowQ (mem 65 27) a ≤ b' ∧ b' < b) ∧ (lowQ (mem 65 27) b' ≤ c ∧ c ≤ mem 65 27) ∧ (lowQ (mem 65 27) c ≤ d ∧ d ≤ mem 65 27) ∧ L = setQ (mem 65 27) a b' c d) a b ha (by omega) (fun m' y3 y4 f' h' => iht (b + 1) (by omega) (by omega) (by omega) m' y3 y4 f' (mInv_less h' (fun L q => ?_))) (mem 65 27 + 1 - lowQ (mem 65 27) b).toNat (lowQ (mem 65 27) b) (by omega) (Int.le_refl _) lc.1 m x3 x4 f (mInv_less h (fun L q => ?_))
        · rcases q with q | ⟨b', c, d, q1, q2, q3⟩
          · exact Or.inl (Or.inl q)
          · by_cases e : b' = b
            · rw [e] at q2 q3
              exact Or.inr ⟨c, d, q2, q3⟩
            · exact Or.inl (Or.inr ⟨b', c, d, by omega, q2, q3⟩)
        · rcases q with q | ⟨c', d, q1, q2⟩
          · exact q
          · omega
      refine bk_X12_lossesFor_39 (fun z => by omega) (fun z z2 => ?_) (fun z z2 => ?_)
      · unfold lowQ at ent
        rw [if_neg (by omega)] at ent
        exact ent
      · unfold lowQ at ent
        rw [if_pos (by omega)] at ent
        rw [e27]
        exact ent
  have L1 : ∀ (t : Nat) (a : Int), a + t = mem 65 27 + 1 → 0 ≤ a → ∀ m x3 x4, gtFr mem m → mInv (mem 65 27) (leapM mem) x1.toNat x2 x3 x4 (fun L => ∃ a' b c d, (0 ≤ a' ∧ a' < a) ∧ (lowQ (mem 65 27) a' ≤ b ∧ b ≤ mem 65 27) ∧ (lowQ (mem 65 27) b ≤ c ∧ c ≤ mem 65 27) ∧ (lowQ (mem 65 27) c ≤ d ∧ d ≤ mem 65 27) ∧ L = setQ (mem 65 27) a' b c d) → mmT bX12_lossesFor 6 0 0 (mQ 0 Q) 8 [(2, 65), (0, x1), (0, x2), (0, x3), (0, x4), (0, a), (9, 0), (9, 0), (9, 0), (9, 0), (9, 0)] [] mS m := by
    intro t
    induction t with
    | zero =>
      intro a ha h0 m x3 x4 f h
      have e27 := (f.play hp).2.1
      refine bk_X12_lossesFor_8 (fun z => by omega) (fun z => by omega) (fun z => ?_)
      rw [← hQ]
      have all : ∀ L, (0 ≤ L ∧ L < p2 (mem 65 27)) → popc L ≤ x1 → ∃ a' b c d, (0 ≤ a' ∧ a' < a) ∧ (lowQ (mem 65 27) a' ≤ b ∧ b ≤ mem 65 27) ∧ (lowQ (mem 65 27) b ≤ c ∧ c ≤ mem 65 27) ∧ (lowQ (mem 65 27) c ≤ d ∧ d ≤ mem 65 27) ∧ L = setQ (mem 65 27) a' b c d := by
        intro L hL hq
        obtain ⟨a', b, c, d, q1, q2⟩ := setQ_all hn hL (by omega)
        exact ⟨a', b, c, d, by omega, q2⟩
      rcases h with ⟨q1, q2⟩ | ⟨q1, q2⟩
      · have p0 : popc 0 = 0 := by decide +kernel
        have z0 : (0 : Int) ≤ 0 ∧ (0 : Int) < p2 (mem 65 27) := ⟨Int.le_refl 0, p2_pos _⟩
        have := q2 0 (all 0 z0 (by omega)) z0 (by omega)
        rw [rnS_none (fb_none (by omega) (fun i _ _ => tb_0 i))] at this
        have e : mem 65 27 - 0 = -1 := this
        omega
      · exact ⟨⟨q1.1, by omega, q1.2.2.1, fun L hL hq hne => by
          have := q2 L (all L hL hq) hL (by omega) hne
          rw [q1.2.2.2] at this
          exact this⟩, f⟩
    | succ t iht =>
      intro a ha h0 m x3 x4 f h
      have e27 := (f.play hp).2.1
      have lc := lb a h0 (by omega)
      have ent : mmT bX12_lossesFor 6 0 0 (mQ 0 Q) 39 [(2, 65), (0, x1), (0, x2), (0, x3), (0, x4), (0, a), (0, lowQ (mem 65 27) a), (9, 0), (9, 0), (9, 0), (9, 0)] [] mS m := by
        refine L2 (fun L => ∃ a' b c d, (0 ≤ a' ∧ a' < a) ∧ (lowQ (mem 65 27) a' ≤ b ∧ b ≤ mem 65 27) ∧ (lowQ (mem 65 27) b ≤ c ∧ c ≤ mem 65 27) ∧ (lowQ (mem 65 27) c ≤ d ∧ d ≤ mem 65 27) ∧ L = setQ (mem 65 27) a' b c d) a (by omega) (fun m' y3 y4 f' h' => iht (a + 1) (by omega) (by omega) m' y3 y4 f' (mInv_less h' (fun L q => ?_))) (mem 65 27 + 1 - lowQ (mem 65 27) a).toNat (lowQ (mem 65 27) a) (by omega) (Int.le_refl _) lc.1 m x3 x4 f (mInv_less h (fun L q => ?_))
        · obtain ⟨a', b, c, d, q1, q2, q3⟩ := q
          by_cases e : a' = a
          · rw [e] at q2 q3
            exact Or.inr ⟨b, c, d, q2, q3⟩
          · exact Or.inl ⟨a', b, c, d, by omega, q2, q3⟩
        · rcases q with q | ⟨b', c, d, q1, q2⟩
          · exact q
          · omega
      refine bk_X12_lossesFor_8 (fun z z2 => ?_) (fun z z2 => ?_) (fun z => by omega)
      · unfold lowQ at ent
        rw [if_neg (by omega)] at ent
        exact ent
      · unfold lowQ at ent
        rw [if_pos (by omega)] at ent
        rw [e27]
        exact ent
  refine cn_X12_lossesFor (bk_X12_lossesFor_0 ?_)
  exact L1 (mem 65 27 + 1).toNat 0 (by omega) (by omega) mem (-1) 0 ⟨fun _ _ _ => rfl, fun _ _ => rfl⟩ (Or.inl ⟨rfl, fun L ⟨a', b, c, d, q, _⟩ => by omega⟩)
theorem popc_mono {a b : Int} (ha : 0 ≤ a) (hb : 0 ≤ b) (h : ∀ i, 0 ≤ i → tb a i = true → tb b i = true) : popc a ≤ popc b := by
  rw [popc_tb ha, popc_tb hb]
  refine sumTo_mono (fun i i0 i1 => ?_)
  show b2i (tb a i = true) ≤ b2i (tb b i = true)
  by_cases q : tb a i = true
  · rw [b2i_1 q, b2i_1 (h i i0 q)]
    exact Int.le_refl _
  · rw [b2i_0 q]
    exact (b2i_rng _).1
theorem lossP_ext {n : Int} {to : Int → Int} {x1 long v : Int} (hn : 0 ≤ n ∧ n ≤ 24) (ht : toP n to) (h1 : 0 ≤ x1 ∧ x1 ≤ 4) (h : lossP n to x1 long v) : extP n to x1.toNat long ((rnS n to x1.toNat 0 v).1, v) := by
  obtain ⟨h2, h3, h4, h5⟩ := h
  have sub : ∀ L, (0 ≤ L ∧ L < p2 n) → popc L ≤ x1 → ¬ (rnS n to x1.toNat 0 L).1 = -1 → (0 ≤ (rnS n to x1.toNat 0 L).2 ∧ (rnS n to x1.toNat 0 L).2 < p2 n) ∧ popc (rnS n to x1.toNat 0 L).2 ≤ x1 ∧ rnS n to x1.toNat 0 (rnS n to x1.toNat 0 L).2 = rnS n to x1.toNat 0 L ∧ (rnS n to x1.toNat 0 L).2 ≤ L := by
    intro L hL hq hne
    rcases rnS_ok hn ht x1.toNat 0 L (by omega) hL with o | ⟨-, o2, o3, o4⟩
    · exact absurd o hne
    · have := popc_mono o2.1 hL.1 o3
      exact ⟨by omega, by omega, o4, o2.2⟩
  have sv := sub v h2 h3 h4
  have tight : (rnS n to x1.toNat 0 v).2 = v := by
    have l := h5 _ sv.1 sv.2.1 (by rw [sv.2.2.1]; exact h4)
    rw [sv.2.2.1] at l
    have := sv.2.2.2
    unfold leqE at l
    simp only at l
    by_cases q : long = 0
    · rw [if_pos q] at l
      omega
    · rw [if_neg q] at l
      omega
  refine ⟨⟨v, h2, fun i _ _ => tb_0 i, by omega, h4, by show (rnS n to x1.toNat 0 v).1 = 0 + _; omega, by show v = 0 + (rnS n to x1.toNat 0 v).2; omega⟩, ?_⟩
  rintro x y ⟨rem, r1, -, r3, r4, r5, r6⟩
  have sr := sub rem r1 (by omega) r4
  have l := h5 _ sr.1 sr.2.1 (by rw [sr.2.2.1]; exact r4)
  rw [sr.2.2.1] at l
  rw [show x = (rnS n to x1.toNat 0 rem).1 by omega, show y = (rnS n to x1.toNat 0 rem).2 by omega]
  exact l
theorem c_X12_lossesTold (mem : mmM) (x1 x2 x3 : Int) (h1 : R32 x1) (h2 : R32 x2) (h3 : x3 = 0 ∨ x3 = 1) (hp : playM mem) : con 0 bX12_lossesTold 7 [(2, 65), (0, x1), (0, x2), (0, x3)] mem (fun v m => extQ (mem 65 27) (leapM mem) x1 x2 x3 v ∧ gtFr mem m) := by
  have hn := hp.1
  have ht : toP (mem 65 27) (leapM mem) := fun i a b => leapM_bnd ⟨a, b⟩
  have pn : p2 (mem 65 27) ≤ 16777216 := p2_24 hn.2
  have no : gtFr mem mem := ⟨fun _ _ _ => rfl, fun _ _ => rfl⟩
  refine cn_X12_lossesTold (bk_X12_lossesTold_0 (d1 := 6) (d2 := 5) (P1 := fun v m => lossP (mem 65 27) (leapM mem) x1 x3 v ∧ gtFr mem m) (P2 := fun m => ∃ v, extP (mem 65 27) (leapM mem) x1.toNat x3 (m 65 36, v) ∧ gtFr mem m) (fun g g2 g3 => c_X12_lossesFor mem x1 x3 hp g2 h3) (fun g g2 g3 v m w g4 g5 => ?_) (fun g => ⟨Or.inl ⟨by omega, rfl⟩, no⟩) (fun g g2 => ⟨Or.inl ⟨fun z => g2 z.2.1, rfl⟩, no⟩) (fun g g2 g3 v m w g4 => by have := w.1.1; omega) (fun g g2 g3 v m w g4 g5 m4 w4 => ?_) (fun g g2 g3 v m w g4 g5 => ⟨Or.inr ⟨⟨by omega, g2, g3.1, g3.2⟩, _, lossP_ext hn ht g2 w.1, by rw [if_neg (by omega)]⟩, w.2⟩) (fun g g2 g3 => ⟨Or.inl ⟨fun z => g3 ⟨z.2.2.1, z.2.2.2⟩, rfl⟩, no⟩) (s3 := fun _ _ _ v m w => by have := w.1.1; omega))
  · have pl := w.2.play hp
    have c := c_X12_goThrough m v pl.1 (by have := w.1.1; omega)
    refine conv.mono c (fun m2 q => ⟨v, ?_, w.2.trans ?_⟩)
    · have told := ev_told (k := x1.toNat) pl.1 q (by rw [pl.2.1]; exact w.1.1) (by have := w.1.2.1; omega) (by omega)
      rw [pl.2.1, pl.2.2] at told
      rcases told with t | t
      · exact absurd t.1 w.1.2.2.1
      · rw [t.2.2]
        exact lossP_ext hn ht g2 w.1
    · obtain ⟨k, -, q2, -⟩ := q
      exact ⟨q2.1, q2.2.1⟩
  · obtain ⟨v', e1, e2⟩ := w4
    exact ⟨Or.inr ⟨⟨by omega, g2, g3.1, g3.2⟩, _, e1, by rw [if_pos (by omega)]⟩, e2⟩
theorem c_X12_shortest (mem : mmM) (x1 x2 : Int) (h1 : R32 x1) (h2 : R32 x2) (hp : playM mem) : con 0 bX12_shortest 8 [(2, 65), (0, x1), (0, x2)] mem (fun v m => extQ (mem 65 27) (leapM mem) x1 x2 0 v ∧ gtFr mem m) :=
  cn_X12_shortest (bk_X12_shortest_0 (c_X12_lossesTold mem x1 x2 0 h1 h2 (Or.inl rfl) hp) (fun v m w => w))
theorem c_X12_longest (mem : mmM) (x1 x2 : Int) (h1 : R32 x1) (h2 : R32 x2) (hp : playM mem) : con 0 bX12_longest 8 [(2, 65), (0, x1), (0, x2)] mem (fun v m => extQ (mem 65 27) (leapM mem) x1 x2 1 v ∧ gtFr mem m) :=
  cn_X12_longest (bk_X12_longest_0 (c_X12_lossesTold mem x1 x2 1 h1 h2 (Or.inr rfl) hp) (fun v m w => w))
