/-! sets as bits, and the subsets of a set in their order -/
def tb (x k : Int) : Bool := x.toNat.testBit k.toNat
theorem bitS_tb {x k : Int} (h0 : 0 ≤ x) : bitS x k ↔ tb x k = true := by
  unfold bitS tb p2
  rw [Nat.testBit_eq_decide_div_mod_eq, decide_eq_true_iff]
  have e : x = ((x.toNat : Nat) : Int) := by omega
  constructor
  · intro h
    rw [e] at h
    omega
  · intro h
    rw [e]
    omega
theorem bit_tb {x k : Int} (h0 : 0 ≤ x) (h1 : x < 2147483648) (k0 : 0 ≤ k) (k1 : k < 32) : (and32 (shr32 x k) 1 = 1) ↔ tb x k = true := (bit_iff h0 h1 k0 k1).trans (bitS_tb h0)
theorem or32_tn {x y : Int} (x0 : 0 ≤ x) (x1 : x < 2147483648) (y0 : 0 ≤ y) (y1 : y < 2147483648) : or32 x y = ((x.toNat ||| y.toNat : Nat) : Int) := by
  have h := or32_nat (x := x.toNat) (y := y.toNat) (by omega) (by omega)
  rw [Int.toNat_of_nonneg x0, Int.toNat_of_nonneg y0] at h
  exact h
theorem and32_tn {x y : Int} (x0 : 0 ≤ x) (x1 : x < 2147483648) (y0 : 0 ≤ y) (y1 : y < 2147483648) : and32 x y = ((x.toNat &&& y.toNat : Nat) : Int) := by
  have h := and32_nat (x := x.toNat) (y := y.toNat) (by omega) (by omega)
  rw [Int.toNat_of_nonneg x0, Int.toNat_of_nonneg y0] at h
  exact h
theorem xor32_tn {x y : Int} (x0 : 0 ≤ x) (x1 : x < 2147483648) (y0 : 0 ≤ y) (y1 : y < 2147483648) : xor32 x y = ((x.toNat ^^^ y.toNat : Nat) : Int) := by
  have h := xor32_nat (x := x.toNat) (y := y.toNat) (by omega) (by omega)
  rw [Int.toNat_of_nonneg x0, Int.toNat_of_nonneg y0] at h
  exact h
theorem or32_b {x y b : Int} (x0 : 0 ≤ x) (x1 : x < p2 b) (y0 : 0 ≤ y) (y1 : y < p2 b) (hb : b ≤ 31) : (0 ≤ or32 x y ∧ or32 x y < p2 b) ∧ ∀ j, tb (or32 x y) j = (tb x j || tb y j) := by
  have hm := p2_mono hb
  have e31 : p2 31 = 2147483648 := by decide +kernel
  rw [or32_tn x0 (by omega) y0 (by omega)]
  refine ⟨⟨by omega, ?_⟩, fun j => ?_⟩
  · unfold p2 at *
    have : x.toNat ||| y.toNat < 2 ^ b.toNat := Nat.or_lt_two_pow (by omega) (by omega)
    omega
  · unfold tb
    rw [Int.toNat_natCast, Nat.testBit_or]
theorem tb_p2 {k j : Int} (k0 : 0 ≤ k) (j0 : 0 ≤ j) : tb (p2 k) j = decide (k = j) := by
  unfold tb p2
  rw [Int.toNat_natCast, Nat.testBit_two_pow]
  by_cases h : k = j
  · rw [decide_eq_true h, decide_eq_true (by omega)]
  · rw [decide_eq_false h, decide_eq_false (by omega)]
theorem tb_0 (j : Int) : tb 0 j = false := by
  unfold tb
  exact Nat.zero_testBit _
theorem tb_ext {x y : Int} (x0 : 0 ≤ x) (y0 : 0 ≤ y) (h : ∀ j, 0 ≤ j → tb x j = tb y j) : x = y := by
  have : x.toNat = y.toNat := Nat.eq_of_testBit_eq (fun i => by
    have := h (i : Int) (by omega)
    unfold tb at this
    rw [Int.toNat_natCast] at this
    exact this)
  omega
theorem tb_big {x b j : Int} (x0 : 0 ≤ x) (h : x < p2 b) (hj : b ≤ j) : tb x j = false := by
  unfold tb
  apply Nat.testBit_lt_two_pow
  have := p2_mono hj
  unfold p2 at *
  omega
theorem actF_tb {n : Int} {a : Int → Int} (hn : 0 ≤ n) (ha : ∀ i, 0 ≤ i → i < n → 0 ≤ a i ∧ a i < 8) : (0 ≤ actF n a ∧ actF n a < 256) ∧ ∀ j, 0 ≤ j → (tb (actF n a) j = true ↔ ∃ i, 0 ≤ i ∧ i < n ∧ a i = j) := by
  have e8 : p2 8 = 256 := by decide +kernel
  have := foldTo_inv (g := fun acc i => or32 acc (shl32 1 (a i))) (z := 0) (n := n.toNat) (fun i x => (0 ≤ x ∧ x < 256) ∧ ∀ j, 0 ≤ j → (tb x j = true ↔ ∃ t, 0 ≤ t ∧ t < i ∧ a t = j)) (by
    refine ⟨by omega, fun j j0 => ?_⟩
    rw [tb_0]
    constructor
    · intro h
      cases h
    · rintro ⟨t, t0, t1, -⟩
      omega) (fun i x i0 i1 h => by
    have hi := ha i i0 (by omega)
    have e := shl1_eq (k := a i) hi.1 (by omega)
    have m := p2_lt hi.1 hi.2
    have pp := p2_pos (a i)
    have o := or32_b (x := x) (y := p2 (a i)) (b := 8) h.1.1 (by omega) (by omega) (by omega) (by decide)
    show (0 ≤ or32 x (shl32 1 (a i)) ∧ or32 x (shl32 1 (a i)) < 256) ∧ _
    rw [e]
    refine ⟨by omega, fun j j0 => ?_⟩
    rw [o.2, tb_p2 hi.1 j0, Bool.or_eq_true, h.2 j j0, decide_eq_true_iff]
    constructor
    · rintro (⟨t, t0, t1, t2⟩ | q)
      · exact ⟨t, t0, by omega, t2⟩
      · exact ⟨i, i0, by omega, q⟩
    · rintro ⟨t, t0, t1, t2⟩
      by_cases q : t = i
      · exact Or.inr (by rw [← q]; exact t2)
      · exact Or.inl ⟨t, t0, by omega, t2⟩)
  rw [show ((n.toNat : Nat) : Int) = n by omega] at this
  exact this
/-! a set's bits, of w -/
def popw : Nat → Nat → Nat
  | 0, _ => 0
  | w + 1, c => c % 2 + popw w (c / 2)
def spr : Nat → Nat → Nat → Nat
  | 0, _, _ => 0
  | w + 1, c, j => if c % 2 = 1 then j % 2 + 2 * spr w (c / 2) (j / 2) else 2 * spr w (c / 2) j
theorem popw_le (w c : Nat) : popw w c ≤ w := by
  induction w generalizing c with
  | zero => exact Nat.le_refl _
  | succ w ih =>
    have := ih (c / 2)
    unfold popw
    omega
theorem popw_more {w j : Nat} (h : j < 2 ^ w) : popw (w + 1) j = popw w j := by
  induction w generalizing j with
  | zero =>
    have : j = 0 := by
      have : (2 : Nat) ^ 0 = 1 := rfl
      omega
    rw [this]
    rfl
  | succ w ih =>
    rw [Nat.pow_succ] at h
    show j % 2 + popw (w + 1) (j / 2) = j % 2 + popw w (j / 2)
    rw [ih (by omega)]
theorem spr_0 (w c : Nat) : spr w c 0 = 0 := by
  induction w generalizing c with
  | zero => rfl
  | succ w ih =>
    unfold spr
    rw [ih]
    split <;> rfl
theorem spr_le (w c j : Nat) : spr w c j ≤ c := by
  induction w generalizing c j with
  | zero => exact Nat.zero_le _
  | succ w ih =>
    unfold spr
    split
    · have := ih (c / 2) (j / 2)
      omega
    · have := ih (c / 2) j
      omega
theorem pow_popw_le (w c : Nat) : 2 ^ popw w c ≤ 2 ^ w := Nat.pow_le_pow_right (by decide) (popw_le w c)
theorem popw_spr {w c j : Nat} (h : j < 2 ^ popw w c) : popw w (spr w c j) = popw w j := by
  induction w generalizing c j with
  | zero => rfl
  | succ w ih =>
    unfold popw at h
    unfold spr
    split
    · rename_i q
      rw [q, Nat.add_comm, Nat.pow_succ] at h
      show (j % 2 + 2 * spr w (c / 2) (j / 2)) % 2 + popw w ((j % 2 + 2 * spr w (c / 2) (j / 2)) / 2) = j % 2 + popw w (j / 2)
      rw [show (j % 2 + 2 * spr w (c / 2) (j / 2)) / 2 = spr w (c / 2) (j / 2) by omega, ih (by omega)]
      omega
    · rename_i q
      rw [show c % 2 = 0 by omega, Nat.zero_add] at h
      have l := pow_popw_le w (c / 2)
      show (2 * spr w (c / 2) j) % 2 + popw w ((2 * spr w (c / 2) j) / 2) = popw (w + 1) j
      rw [show (2 * spr w (c / 2) j) / 2 = spr w (c / 2) j by omega, ih h, popw_more (by omega)]
      omega
theorem and_two (X a M m : Nat) (ha : a < 2) (hm : m < 2) : (2 * X + a) &&& (2 * M + m) = 2 * (X &&& M) + (a &&& m) := and_split 1 X a M m ha hm
theorem sub1_spr (w t c j : Nat) (ht : 0 < t) (hc : c < 2 ^ w) : (2 ^ w * t + spr w c j - c - 1) &&& c = spr w c j := by
  induction w generalizing c j with
  | zero =>
    have e : c = 0 := by
      have : (2 : Nat) ^ 0 = 1 := rfl
      omega
    rw [e]
    exact Nat.and_zero _
  | succ w ih =>
    rw [Nat.pow_succ] at hc
    have e2 : 2 ^ (w + 1) * t = 2 * (2 ^ w * t) := by rw [Nat.pow_succ, Nat.mul_comm (2 ^ w) 2, Nat.mul_assoc]
    have hge : 2 ^ w ≤ 2 ^ w * t := Nat.le_mul_of_pos_right _ ht
    rw [e2]
    generalize hA : 2 ^ w * t = A at *
    unfold spr
    split
    · rename_i q
      have ih' := ih (c / 2) (j / 2) (by omega)
      have e : 2 * A + (j % 2 + 2 * spr w (c / 2) (j / 2)) - c - 1 = 2 * (A + spr w (c / 2) (j / 2) - c / 2 - 1) + j % 2 := by omega
      have ec : c = 2 * (c / 2) + 1 := by omega
      rw [e]
      conv => lhs; rw [ec]
      rw [and_two _ _ _ _ (by omega) (by decide)]
      have e3 : (2 * (c / 2) + 1) / 2 = c / 2 := by omega
      rw [e3, ih', show j % 2 &&& 1 = j % 2 by rw [Nat.and_one_is_mod]; omega]
      omega
    · rename_i q
      have ih' := ih (c / 2) j (by omega)
      have e : 2 * A + 2 * spr w (c / 2) j - c - 1 = 2 * (A + spr w (c / 2) j - c / 2 - 1) + 1 := by omega
      have ec : c = 2 * (c / 2) + 0 := by omega
      rw [e]
      conv => lhs; rw [ec]
      rw [and_two _ _ _ _ (by omega) (by decide)]
      have e3 : (2 * (c / 2) + 0) / 2 = c / 2 := by omega
      rw [e3, ih']
      rfl
/-- the next subset -/
theorem next_spr (w t c j : Nat) (ht : 0 < t) (hc : c < 2 ^ w) (hj : j < 2 ^ popw w c) : (2 ^ w * t + spr w c j - c) &&& c = if j + 1 < 2 ^ popw w c then spr w c (j + 1) else 0 := by
  induction w generalizing c j with
  | zero =>
    have e : c = 0 := by
      have : (2 : Nat) ^ 0 = 1 := rfl
      omega
    rw [e, Nat.and_zero]
    split <;> rfl
  | succ w ih =>
    rw [Nat.pow_succ] at hc
    have e2 : 2 ^ (w + 1) * t = 2 * (2 ^ w * t) := by rw [Nat.pow_succ, Nat.mul_comm (2 ^ w) 2, Nat.mul_assoc]
    have hge : 2 ^ w ≤ 2 ^ w * t := Nat.le_mul_of_pos_right _ ht
    have s1 := sub1_spr w t (c / 2) (j / 2) ht (by omega)
    rw [e2]
    have hp : 2 ^ popw (w + 1) c = 2 ^ (c % 2) * 2 ^ popw w (c / 2) := Nat.pow_add _ _ _
    rw [hp] at hj ⊢
    by_cases q : c % 2 = 1
    · rw [q, show (2 : Nat) ^ 1 = 2 from rfl] at hj ⊢
      have ec : c = 2 * (c / 2) + 1 := by omega
      have ih' := ih (c / 2) (j / 2) (by omega) (by omega)
      have sl := spr_le w (c / 2) (j / 2)
      generalize hA : 2 ^ w * t = A at *
      generalize hK : 2 ^ popw w (c / 2) = K at *
      have u : ∀ i, spr (w + 1) c i = i % 2 + 2 * spr w (c / 2) (i / 2) := fun i => if_pos q
      rw [u, u]
      by_cases p : j % 2 = 1
      · have e : 2 * A + (j % 2 + 2 * spr w (c / 2) (j / 2)) - c = 2 * (A + spr w (c / 2) (j / 2) - c / 2) + 0 := by omega
        rw [e]
        conv => lhs; rw [ec]
        rw [and_two _ _ _ _ (by omega) (by decide)]
        have e3 : (2 * (c / 2) + 1) / 2 = c / 2 := by omega
        rw [e3, ih', show (j + 1) % 2 = 0 by omega, show (j + 1) / 2 = j / 2 + 1 by omega]
        by_cases z : j / 2 + 1 < K
        · rw [if_pos z, if_pos (by omega)]
          show _ + 0 = _
          omega
        · rw [if_neg z, if_neg (by omega)]
          rfl
      · have e : 2 * A + (j % 2 + 2 * spr w (c / 2) (j / 2)) - c = 2 * (A + spr w (c / 2) (j / 2) - c / 2 - 1) + 1 := by omega
        rw [e]
        conv => lhs; rw [ec]
        rw [and_two _ _ _ _ (by omega) (by decide)]
        have e3 : (2 * (c / 2) + 1) / 2 = c / 2 := by omega
        rw [e3, s1, if_pos (by omega), show (j + 1) % 2 = 1 by omega, show (j + 1) / 2 = j / 2 by omega]
        show _ + 1 = _
        omega
    · rw [show c % 2 = 0 by omega, show (2 : Nat) ^ 0 = 1 from rfl, Nat.one_mul] at hj ⊢
      have ec : c = 2 * (c / 2) + 0 := by omega
      have ih' := ih (c / 2) j (by omega) hj
      have sl := spr_le w (c / 2) j
      generalize hA : 2 ^ w * t = A at *
      have u : ∀ i, spr (w + 1) c i = 2 * spr w (c / 2) i := fun i => if_neg q
      rw [u, u]
      have e : 2 * A + 2 * spr w (c / 2) j - c = 2 * (A + spr w (c / 2) j - c / 2) + 0 := by omega
      rw [e]
      conv => lhs; rw [ec]
      rw [and_two _ _ _ _ (by omega) (by decide)]
      have e3 : (2 * (c / 2) + 0) / 2 = c / 2 := by omega
      rw [e3, ih']
      split
      · rfl
      · rfl
theorem sumTo_shift (f : Int → Int) (n : Nat) : sumTo f (n + 1) = f 0 + sumTo (fun i => f (i + 1)) n := by
  induction n with
  | zero =>
    show 0 + f ((0 : Nat) : Int) = f 0 + 0
    rw [Int.add_comm]
    rfl
  | succ n ih =>
    show sumTo f (n + 1) + f ((n + 1 : Nat) : Int) = f 0 + (sumTo (fun i => f (i + 1)) n + f ((n : Int) + 1))
    rw [ih]
    have : ((n + 1 : Nat) : Int) = (n : Int) + 1 := by omega
    rw [this]
    omega
theorem popw_sum (w c : Nat) : ((popw w c : Nat) : Int) = sumTo (fun i => (c : Int) / p2 i % 2) w := by
  induction w generalizing c with
  | zero => rfl
  | succ w ih =>
    rw [sumTo_shift]
    have e : sumTo (fun i => (c : Int) / p2 (i + 1) % 2) w = sumTo (fun i => ((c / 2 : Nat) : Int) / p2 i % 2) w := by
      refine sumTo_congr (fun i i0 i1 => ?_)
      rw [p2_succ i0, ← Int.ediv_ediv_of_nonneg (by decide : (0 : Int) ≤ 2)]
      rfl
    rw [e, ← ih]
    show ((c % 2 + popw w (c / 2) : Nat) : Int) = (c : Int) / 1 % 2 + _
    omega
theorem popc_popw {x : Int} (h0 : 0 ≤ x) : popc x = ((popw 24 x.toNat : Nat) : Int) := by
  rw [popw_sum, Int.toNat_of_nonneg h0]
  rfl
theorem and32_any {x y : Nat} (hy : y < 2147483648) : and32 (x : Int) (y : Int) = ((x &&& y : Nat) : Int) := by
  unfold and32
  have e : (Int32.ofInt (x : Int) &&& Int32.ofInt (y : Int)) = Int32.ofInt ((x &&& y : Nat) : Int) := by
    apply Int32.toBitVec_inj.mp
    show BitVec.ofInt 32 (x : Int) &&& BitVec.ofInt 32 (y : Int) = BitVec.ofInt 32 ((x &&& y : Nat) : Int)
    rw [BitVec.ofInt_natCast, BitVec.ofInt_natCast, BitVec.ofInt_natCast, BitVec.ofNat_and]
  have : x &&& y ≤ y := Nat.and_le_right
  rw [e, w32_toInt, w32_id] <;> omega
theorem and32_w (x y : Int) : and32 (x + 4294967296) y = and32 x y := by
  unfold and32
  rw [← w32_ofInt (x + 4294967296), ← w32_ofInt x, show w32 (x + 4294967296) = w32 x by unfold w32; omega]
/-- the model's way to the next subset -/
theorem next32 {c : Int} (c0 : 0 ≤ c) (c1 : c < 16777216) {j : Nat} (hj : j < 2 ^ popw 24 c.toNat) : and32 ((spr 24 c.toNat j : Int) - c) c = ((if j + 1 < 2 ^ popw 24 c.toNat then spr 24 c.toNat (j + 1) else 0 : Nat) : Int) := by
  have h := next_spr 24 256 c.toNat j (by decide) (by have : (2 : Nat) ^ 24 = 16777216 := rfl; omega) hj
  have l := spr_le 24 c.toNat j
  rw [← and32_w, show (spr 24 c.toNat j : Int) - c + 4294967296 = ((2 ^ 24 * 256 + spr 24 c.toNat j - c.toNat : Nat) : Int) by have : (2 : Nat) ^ 24 * 256 = 4294967296 := rfl; omega]
  have := and32_any (x := 2 ^ 24 * 256 + spr 24 c.toNat j - c.toNat) (y := c.toNat) (by omega)
  rw [Int.toNat_of_nonneg c0] at this
  rw [this, h]
