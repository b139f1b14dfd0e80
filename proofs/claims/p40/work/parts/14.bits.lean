/-! shifts -/
theorem bv_amt {k : Nat} (h : k < 32) : (BitVec.ofNat 32 k).smod (32#32) = BitVec.ofNat 32 k := by
  have hh : ∀ k : Fin 32, (BitVec.ofNat 32 k.val).smod (32#32) = BitVec.ofNat 32 k.val := by decide
  exact hh ⟨k, h⟩
theorem ofInt_bv {k : Int} (h0 : 0 ≤ k) : (Int32.ofInt k).toBitVec = BitVec.ofNat 32 k.toNat := by
  show BitVec.ofInt 32 k = _
  conv => lhs; rw [show k = ((k.toNat : Nat) : Int) by omega]
  exact BitVec.ofInt_natCast 32 k.toNat
theorem bv_toInt {x : Int} (h0 : 0 ≤ x) (h1 : x < 2147483648) : (BitVec.ofNat 32 x.toNat).toInt = x := by
  have : (Int32.ofInt x).toInt = x := by rw [w32_toInt, w32_id (by omega) h1]
  rw [← ofInt_bv h0]
  exact this
theorem bv_nat {k : Nat} (h : k < 4294967296) : (BitVec.ofNat 32 k).toNat = k := by
  rw [BitVec.toNat_ofNat]
  exact Nat.mod_eq_of_lt h
theorem shr32_eq {x k : Int} (h0 : 0 ≤ x) (h1 : x < 2147483648) (k0 : 0 ≤ k) (k1 : k < 32) : shr32 x k = x / p2 k := by
  unfold shr32
  rw [shift_amt k0 k1]
  show (Int32.ofInt x >>> Int32.ofInt k).toBitVec.toInt = _
  have e : (Int32.ofInt x >>> Int32.ofInt k).toBitVec = (Int32.ofInt x).toBitVec.sshiftRight' ((Int32.ofInt k).toBitVec.smod 32#32) := rfl
  rw [e, ofInt_bv h0, ofInt_bv k0, bv_amt (by omega), BitVec.toInt_sshiftRight', bv_toInt h0 h1, bv_nat (by omega), Int.shiftRight_eq_div_pow]
  rfl
theorem shl1_eq {k : Int} (k0 : 0 ≤ k) (k1 : k < 31) : shl32 1 k = p2 k := by
  have hh : ∀ k : Fin 31, shl32 1 ((k.val : Nat) : Int) = ((2 ^ k.val : Nat) : Int) := by decide +kernel
  have := hh ⟨k.toNat, by omega⟩
  simp only at this
  rw [Int.toNat_of_nonneg k0] at this
  exact this
theorem ushr32_eq {x k : Int} (h0 : 0 ≤ x) (h1 : x < 2147483648) (k0 : 0 ≤ k) (k1 : k < 32) : ushr32 x k = x / p2 k := by
  unfold ushr32
  have hh : ∀ k : Fin 32, ((Int32.ofInt ((k.val : Nat) : Int)).toUInt32 &&& Int32.toUInt32 31) = UInt32.ofNat k.val := by decide +kernel
  have hk := hh ⟨k.toNat, by omega⟩
  simp only at hk
  rw [Int.toNat_of_nonneg k0] at hk
  rw [hk]
  have hx : (Int32.ofInt x).toUInt32.toNat = x.toNat := by
    show (Int32.ofInt x).toBitVec.toNat = _
    rw [ofInt_bv h0, bv_nat (by omega)]
  have hsh : ((Int32.ofInt x).toUInt32 >>> UInt32.ofNat k.toNat).toNat = x.toNat / 2 ^ k.toNat := by
    rw [UInt32.toNat_shiftRight, hx, UInt32.toNat_ofNat', Nat.mod_eq_of_lt (show k.toNat < 2 ^ 32 by omega), Nat.mod_eq_of_lt (show k.toNat < 32 by omega), Nat.shiftRight_eq_div_pow]
  have hle : x.toNat / 2 ^ k.toNat ≤ x.toNat := Nat.div_le_self _ _
  have hv : ((Int32.ofInt x).toUInt32 >>> UInt32.ofNat k.toNat).toInt32.toInt = ((x.toNat / 2 ^ k.toNat : Nat) : Int) := by
    show ((Int32.ofInt x).toUInt32 >>> UInt32.ofNat k.toNat).toBitVec.toInt = _
    rw [BitVec.toInt_eq_toNat_of_lt]
    · show ((((Int32.ofInt x).toUInt32 >>> UInt32.ofNat k.toNat).toNat : Nat) : Int) = _
      rw [hsh]
    · show 2 * ((Int32.ofInt x).toUInt32 >>> UInt32.ofNat k.toNat).toNat < _
      rw [hsh]
      omega
  rw [hv]
  unfold p2
  rw [Int.natCast_ediv, Int.toNat_of_nonneg h0]
theorem and1_eq {x : Int} (h0 : 0 ≤ x) (h1 : x < 2147483648) : and32 x 1 = x % 2 := by
  have h := and32_nat (x := x.toNat) (y := 1) (by omega) (by decide)
  rw [Int.toNat_of_nonneg h0] at h
  have e : x.toNat &&& 1 = x.toNat % 2 := Nat.and_one_is_mod _
  rw [e] at h
  have : ((1 : Nat) : Int) = 1 := rfl
  rw [this] at h
  rw [h]
  omega
theorem div_bnd {x k : Int} (h0 : 0 ≤ x) : 0 ≤ x / p2 k ∧ x / p2 k ≤ x := by
  have hp := p2_pos k
  exact ⟨Int.ediv_nonneg h0 (by omega), Int.ediv_le_self _ h0⟩
/-- the machine's test of a bit is the bit -/
theorem bit_eq {x k : Int} (h0 : 0 ≤ x) (h1 : x < 2147483648) (k0 : 0 ≤ k) (k1 : k < 32) : and32 (shr32 x k) 1 = (x / p2 k) % 2 := by
  rw [shr32_eq h0 h1 k0 k1]
  have := div_bnd (k := k) h0
  exact and1_eq this.1 (by omega)
theorem bit_iff {x k : Int} (h0 : 0 ≤ x) (h1 : x < 2147483648) (k0 : 0 ≤ k) (k1 : k < 32) : (and32 (shr32 x k) 1 = 1) ↔ bitS x k := by
  rw [bit_eq h0 h1 k0 k1]
  rfl
theorem bitS_lt {x k : Int} (h : x < p2 k) (h0 : 0 ≤ x) : ¬ bitS x k := by
  unfold bitS
  rw [Int.ediv_eq_zero_of_lt h0 h]
  decide
theorem or_bit_nat {x k : Nat} (h : (x / 2 ^ k) % 2 = 0) : x ||| 2 ^ k = x + 2 ^ k := by
  have hp : 0 < 2 ^ k := Nat.pow_pos (by decide)
  have h1 : x = 2 ^ (k + 1) * (x / 2 ^ k / 2) + x % 2 ^ k := by
    have e1 := Nat.div_add_mod x (2 ^ k)
    have e2 : x / 2 ^ k = 2 * (x / 2 ^ k / 2) := by omega
    rw [Nat.pow_succ, Nat.mul_assoc, ← e2]
    exact e1.symm
  have h2 : x % 2 ^ k < 2 ^ k := Nat.mod_lt _ hp
  generalize x / 2 ^ k / 2 = a at h1
  generalize x % 2 ^ k = b at h1 h2
  have h3 : 2 ^ (k + 1) = 2 ^ k + 2 ^ k := by rw [Nat.pow_succ]; omega
  subst h1
  rw [Nat.add_assoc, ← Nat.or_two_pow_eq_add_of_lt h2, Nat.two_pow_add_eq_or_of_lt (by omega) a, Nat.two_pow_add_eq_or_of_lt (by rw [Nat.or_two_pow_eq_add_of_lt h2]; omega) a, Nat.or_assoc]
/-- a bit is set that was not: the sum -/
theorem or32_bit {x k : Int} (h0 : 0 ≤ x) (h1 : x < 2147483648) (k0 : 0 ≤ k) (k1 : k < 31) (hb : ¬ bitS x k) : or32 x (shl32 1 k) = x + p2 k := by
  rw [shl1_eq k0 k1]
  have hp : p2 k < 2147483648 := by
    have := p2_mono (i := k) (j := 30) (by omega)
    have e : p2 30 = 1073741824 := by decide
    omega
  have h := or32_nat (x := x.toNat) (y := 2 ^ k.toNat) (by omega) (by unfold p2 at hp; omega)
  rw [Int.toNat_of_nonneg h0] at h
  have e2 : ((2 ^ k.toNat : Nat) : Int) = p2 k := rfl
  rw [e2] at h
  rw [h]
  have hq : (x.toNat / 2 ^ k.toNat) % 2 = 0 := by
    have hq : ¬ (x.toNat / 2 ^ k.toNat) % 2 = 1 := by
      intro q
      apply hb
      unfold bitS p2
      rw [show x = ((x.toNat : Nat) : Int) by omega]
      omega
    omega
  have e3 := or_bit_nat hq
  rw [e3]
  unfold p2
  omega
theorem or32_zero {x : Int} (h : R32 x) : or32 x 0 = x := by
  unfold or32
  have e : (Int32.ofInt x ||| Int32.ofInt 0) = Int32.ofInt x := by
    apply Int32.toBitVec_inj.mp
    show (Int32.ofInt x).toBitVec ||| 0#32 = _
    simp
  rw [e, w32_toInt, w32_id h.1 h.2]
/-- a byte: the two shifts agree -/
theorem byte_eq {x k : Int} (hk : k = 0 ∨ k = 8 ∨ k = 16 ∨ k = 24) : and32 (ushr32 x k) 255 = and32 (shr32 x k) 255 := by
  unfold and32
  congr 1
  unfold ushr32 shr32
  rw [Int32.ofInt_toInt, Int32.ofInt_toInt]
  generalize Int32.ofInt x = y
  apply Int32.toBitVec_inj.mp
  rcases hk with rfl | rfl | rfl | rfl
  · show (y.toBitVec >>> (0 : Nat)) &&& 255#32 = (y.toBitVec.sshiftRight 0) &&& 255#32
    simp
  · show (y.toBitVec >>> (8 : Nat)) &&& 255#32 = (y.toBitVec.sshiftRight 8) &&& 255#32
    apply BitVec.eq_of_getLsbD_eq
    intro i hi
    simp only [BitVec.getLsbD_and, BitVec.getLsbD_ushiftRight, BitVec.getLsbD_sshiftRight]
    by_cases h8 : i < 8
    · rw [if_pos (by omega)]
      simp [show ¬ 32 ≤ i by omega]
    · have : (255#32).getLsbD i = false := by
        have h9 : ∀ i : Fin 32, 8 ≤ i.val → (255#32).getLsbD i.val = false := by decide
        exact h9 ⟨i, hi⟩ (by show 8 ≤ i; omega)
      rw [this]
      simp
  · show (y.toBitVec >>> (16 : Nat)) &&& 255#32 = (y.toBitVec.sshiftRight 16) &&& 255#32
    apply BitVec.eq_of_getLsbD_eq
    intro i hi
    simp only [BitVec.getLsbD_and, BitVec.getLsbD_ushiftRight, BitVec.getLsbD_sshiftRight]
    by_cases h8 : i < 8
    · rw [if_pos (by omega)]
      simp [show ¬ 32 ≤ i by omega]
    · have : (255#32).getLsbD i = false := by
        have h9 : ∀ i : Fin 32, 8 ≤ i.val → (255#32).getLsbD i.val = false := by decide
        exact h9 ⟨i, hi⟩ (by show 8 ≤ i; omega)
      rw [this]
      simp
  · show (y.toBitVec >>> (24 : Nat)) &&& 255#32 = (y.toBitVec.sshiftRight 24) &&& 255#32
    apply BitVec.eq_of_getLsbD_eq
    intro i hi
    simp only [BitVec.getLsbD_and, BitVec.getLsbD_ushiftRight, BitVec.getLsbD_sshiftRight]
    by_cases h8 : i < 8
    · rw [if_pos (by omega)]
      simp [show ¬ 32 ≤ i by omega]
    · have : (255#32).getLsbD i = false := by
        have h9 : ∀ i : Fin 32, 8 ≤ i.val → (255#32).getLsbD i.val = false := by decide
        exact h9 ⟨i, hi⟩ (by show 8 ≤ i; omega)
      rw [this]
      simp
theorem byte_rng (z : Int) : 0 ≤ and32 z 255 ∧ and32 z 255 ≤ 255 := by
  unfold and32
  generalize Int32.ofInt z = y
  have e : (y &&& Int32.ofInt 255).toInt = ((y &&& Int32.ofInt 255).toBitVec).toInt := rfl
  have h : (y &&& Int32.ofInt 255).toBitVec.toNat ≤ 255 := by
    show (y.toBitVec &&& 255#32).toNat ≤ 255
    rw [BitVec.toNat_and]
    exact Nat.and_le_right
  rw [e, BitVec.toInt_eq_toNat_of_lt (by omega)]
  omega
