/-! sums, searches, bits: what loops reckon -/
def sumTo (f : Int → Int) : Nat → Int
  | 0 => 0
  | k + 1 => sumTo f k + f k
/-- the last one below k of which p holds; -1: none -/
def dnTo (p : Int → Bool) : Nat → Int
  | 0 => -1
  | k + 1 => if p k = true then k else dnTo p k
/-- the first one from i on, of k, of which p holds; -1: none -/
def upFrom (p : Int → Bool) (i : Int) : Nat → Int
  | 0 => -1
  | k + 1 => if p i = true then i else upFrom p (i + 1) k
theorem sumTo_congr {f g : Int → Int} {n : Nat} (h : ∀ i : Int, 0 ≤ i → i < n → f i = g i) : sumTo f n = sumTo g n := by
  induction n with
  | zero => rfl
  | succ n ih =>
    unfold sumTo
    rw [ih (fun i h1 h2 => h i h1 (by omega)), h n (by omega) (by omega)]
theorem sumTo_bnd {f : Int → Int} {n : Nat} {b : Int} (h : ∀ i : Int, 0 ≤ i → i < n → 0 ≤ f i ∧ f i ≤ b) : 0 ≤ sumTo f n ∧ sumTo f n ≤ b * n := by
  induction n with
  | zero => simp [sumTo]
  | succ n ih =>
    unfold sumTo
    have h1 := ih (fun i h1 h2 => h i h1 (by omega))
    have h2 := h n (by omega) (by omega)
    have e : b * ((n + 1 : Nat) : Int) = b * n + b := by
      rw [show ((n + 1 : Nat) : Int) = (n : Int) + 1 by omega, Int.mul_add, Int.mul_one]
    rw [e]
    omega
theorem dnTo_congr {p q : Int → Bool} {n : Nat} (h : ∀ i : Int, 0 ≤ i → i < n → p i = q i) : dnTo p n = dnTo q n := by
  induction n with
  | zero => rfl
  | succ n ih =>
    unfold dnTo
    rw [ih (fun i h1 h2 => h i h1 (by omega)), h n (by omega) (by omega)]
theorem upFrom_congr {p q : Int → Bool} {n : Nat} : ∀ {j : Int}, (∀ i : Int, j ≤ i → i < j + n → p i = q i) → upFrom p j n = upFrom q j n := by
  induction n with
  | zero => intro j h; rfl
  | succ n ih =>
    intro j h
    unfold upFrom
    rw [ih (fun i h1 h2 => h i (by omega) (by omega)), h j (by omega) (by omega)]
theorem dnTo_spec (p : Int → Bool) (n : Nat) : (dnTo p n = -1 ∧ ∀ i : Int, 0 ≤ i → i < n → p i = false) ∨ (0 ≤ dnTo p n ∧ dnTo p n < n ∧ p (dnTo p n) = true ∧ ∀ i : Int, dnTo p n < i → i < n → p i = false) := by
  induction n with
  | zero => exact Or.inl ⟨rfl, fun i h1 h2 => by omega⟩
  | succ n ih =>
    unfold dnTo
    by_cases h : p n = true
    · rw [if_pos h]
      exact Or.inr ⟨by omega, by omega, h, fun i h1 h2 => by omega⟩
    · rw [if_neg h]
      have h' : p n = false := by simpa using h
      rcases ih with ⟨h1, h2⟩ | ⟨h1, h2, h3, h4⟩
      · refine Or.inl ⟨h1, fun i g1 g2 => ?_⟩
        by_cases e : i = n
        · rw [e]; exact h'
        · exact h2 i g1 (by omega)
      · refine Or.inr ⟨h1, by omega, h3, fun i g1 g2 => ?_⟩
        by_cases e : i = n
        · rw [e]; exact h'
        · exact h4 i g1 (by omega)
theorem upFrom_spec (p : Int → Bool) (n : Nat) : ∀ j : Int, 0 ≤ j → (upFrom p j n = -1 ∧ ∀ i : Int, j ≤ i → i < j + n → p i = false) ∨ (j ≤ upFrom p j n ∧ upFrom p j n < j + n ∧ p (upFrom p j n) = true ∧ ∀ i : Int, j ≤ i → i < upFrom p j n → p i = false) := by
  induction n with
  | zero => intro j hj; exact Or.inl ⟨rfl, fun i h1 h2 => by omega⟩
  | succ n ih =>
    intro j hj
    unfold upFrom
    by_cases h : p j = true
    · rw [if_pos h]
      exact Or.inr ⟨by omega, by omega, h, fun i h1 h2 => by omega⟩
    · rw [if_neg h]
      have h' : p j = false := by simpa using h
      rcases ih (j + 1) (by omega) with ⟨h1, h2⟩ | ⟨h1, h2, h3, h4⟩
      · refine Or.inl ⟨h1, fun i g1 g2 => ?_⟩
        by_cases e : i = j
        · rw [e]; exact h'
        · exact h2 i (by omega) (by omega)
      · refine Or.inr ⟨by omega, by omega, h3, fun i g1 g2 => ?_⟩
        by_cases e : i = j
        · rw [e]; exact h'
        · exact h4 i (by omega) g2
/-- 2 to the i -/
def p2 (i : Int) : Int := ((2 ^ i.toNat : Nat) : Int)
theorem p2_pos (i : Int) : 0 < p2 i := by
  unfold p2
  have : 0 < 2 ^ i.toNat := Nat.pow_pos (by decide)
  omega
theorem p2_succ {i : Int} (h : 0 ≤ i) : p2 (i + 1) = 2 * p2 i := by
  unfold p2
  rw [show (i + 1).toNat = i.toNat + 1 by omega, Nat.pow_succ]
  omega
theorem p2_zero : p2 0 = 1 := rfl
theorem p2_mono {i j : Int} (h : i ≤ j) : p2 i ≤ p2 j := by
  unfold p2
  have : 2 ^ i.toNat ≤ 2 ^ j.toNat := Nat.pow_le_pow_right (by decide) (by omega)
  omega
theorem p2_24 {i : Int} (h : i ≤ 24) : p2 i ≤ 16777216 := p2_mono (j := 24) h
theorem p2_lt {i j : Int} (h0 : 0 ≤ i) (h : i < j) : 2 * p2 i ≤ p2 j := by
  rw [← p2_succ h0]
  exact p2_mono (by omega)
/-- the i-th bit is set -/
def bitS (x i : Int) : Prop := (x / p2 i) % 2 = 1
theorem ofInt_nat (n : Nat) : Int32.ofInt (n : Int) = Int32.ofNat n := rfl
theorem and32_nat {x y : Nat} (hx : x < 2147483648) (hy : y < 2147483648) : and32 (x : Int) (y : Int) = ((x &&& y : Nat) : Int) := by
  unfold and32
  have e : (Int32.ofInt (x : Int) &&& Int32.ofInt (y : Int)) = Int32.ofInt ((x &&& y : Nat) : Int) := by
    apply Int32.toBitVec_inj.mp
    show BitVec.ofInt 32 (x : Int) &&& BitVec.ofInt 32 (y : Int) = BitVec.ofInt 32 ((x &&& y : Nat) : Int)
    rw [BitVec.ofInt_natCast, BitVec.ofInt_natCast, BitVec.ofInt_natCast, BitVec.ofNat_and]
  rw [e, w32_toInt, w32_id]
  · omega
  · have : x &&& y ≤ x := Nat.and_le_left
    omega
theorem or32_nat {x y : Nat} (hx : x < 2147483648) (hy : y < 2147483648) : or32 (x : Int) (y : Int) = ((x ||| y : Nat) : Int) := by
  unfold or32
  have e : (Int32.ofInt (x : Int) ||| Int32.ofInt (y : Int)) = Int32.ofInt ((x ||| y : Nat) : Int) := by
    apply Int32.toBitVec_inj.mp
    show BitVec.ofInt 32 (x : Int) ||| BitVec.ofInt 32 (y : Int) = BitVec.ofInt 32 ((x ||| y : Nat) : Int)
    rw [BitVec.ofInt_natCast, BitVec.ofInt_natCast, BitVec.ofInt_natCast, BitVec.ofNat_or]
  have h : x ||| y < 2 ^ 31 := Nat.or_lt_two_pow (by simpa using hx) (by simpa using hy)
  rw [e, w32_toInt, w32_id]
  · omega
  · omega
theorem xor32_nat {x y : Nat} (hx : x < 2147483648) (hy : y < 2147483648) : xor32 (x : Int) (y : Int) = ((x ^^^ y : Nat) : Int) := by
  unfold xor32
  have e : (Int32.ofInt (x : Int) ^^^ Int32.ofInt (y : Int)) = Int32.ofInt ((x ^^^ y : Nat) : Int) := by
    apply Int32.toBitVec_inj.mp
    show BitVec.ofInt 32 (x : Int) ^^^ BitVec.ofInt 32 (y : Int) = BitVec.ofInt 32 ((x ^^^ y : Nat) : Int)
    rw [BitVec.ofInt_natCast, BitVec.ofInt_natCast, BitVec.ofInt_natCast, BitVec.ofNat_xor]
  have h : x ^^^ y < 2 ^ 31 := Nat.xor_lt_two_pow (by simpa using hx) (by simpa using hy)
  rw [e, w32_toInt, w32_id]
  · omega
  · omega
theorem shift_amt {k : Int} (h0 : 0 ≤ k) (h1 : k < 32) : (Int32.ofInt k &&& 31) = Int32.ofInt k := by
  have h := and32_nat (x := k.toNat) (y := 31) (by omega) (by decide)
  unfold and32 at h
  have e : (Int32.ofInt ((k.toNat : Nat) : Int)) = Int32.ofInt k := by rw [Int.toNat_of_nonneg h0]
  rw [e] at h
  have h2 : k.toNat &&& 31 = k.toNat := by
    rw [show (31 : Nat) = 2 ^ 5 - 1 by decide, Nat.and_two_pow_sub_one_eq_mod, Nat.mod_eq_of_lt (by omega)]
  rw [h2, Int.toNat_of_nonneg h0] at h
  have h3 : (Int32.ofInt k &&& Int32.ofInt ((31 : Nat) : Int)).toInt = (Int32.ofInt k).toInt := by rw [h, w32_toInt, w32_id (by omega) (by omega)]
  exact Int32.toInt_inj.mp h3
