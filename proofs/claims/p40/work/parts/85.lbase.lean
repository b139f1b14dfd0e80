/-! what the law reads of the script; its own small reckonings -/
theorem and31 (z : Int) : 0 ≤ and32 z 2147483647 ∧ and32 z 2147483647 < 2147483648 := by
  have a : ∀ n : Nat, 0 ≤ and32 (n : Int) 2147483647 ∧ and32 (n : Int) 2147483647 < 2147483648 := by
    intro n
    have e := and32_any (x := n) (y := 2147483647) (by decide)
    have l : n &&& 2147483647 ≤ 2147483647 := Nat.and_le_right
    have e' : and32 (n : Int) 2147483647 = ((n &&& 2147483647 : Nat) : Int) := e
    omega
  have c : ∀ z : Int, R32 z → 0 ≤ and32 z 2147483647 ∧ and32 z 2147483647 < 2147483648 := by
    intro z h
    by_cases q : 0 ≤ z
    · have := a z.toNat
      rw [Int.toNat_of_nonneg q] at this
      exact this
    · rw [← and32_w]
      have := a (z + 4294967296).toNat
      rw [Int.toNat_of_nonneg (by have := h.1; omega)] at this
      exact this
  have e : and32 z 2147483647 = and32 (w32 z) 2147483647 := by
    unfold and32
    rw [w32_ofInt]
  rw [e]
  exact c _ (w32_rng z)
theorem rem32_pos {x y : Int} (hx : 0 ≤ x ∧ x < 2147483648) (hy : 0 < y ∧ y < 2147483648) : rem32 x y = x % y := by
  have e1 : (Int32.ofInt x / Int32.ofInt y).toInt = x.tdiv y := div32_eq (by omega) (by omega) (by omega)
  have e2 : Int32.ofInt x / Int32.ofInt y = Int32.ofInt (x.tdiv y) := by rw [← e1, Int32.ofInt_toInt]
  have e3 : x.tdiv y = x / y := Int.tdiv_eq_ediv_of_nonneg hx.1
  unfold rem32
  rw [e2, e3, ← Int32.ofInt_mul, ← Int32.ofInt_sub, w32_toInt]
  have e4 : x - x / y * y = x % y := by
    have := Int.emod_add_mul_ediv x y
    have h2 : y * (x / y) = x / y * y := Int.mul_comm _ _
    omega
  have h5 := Int.emod_nonneg x (show y ≠ 0 by omega)
  have h6 := Int.emod_lt_of_pos x hy.1
  rw [e4, w32_id (by omega) (by omega)]
def cellS (sc : Int → Int) (k : Int) : Int := if k < sc (-1) then sc k else 0
def xS (sc : Int → Int) (k : Int) : Int := and32 (cellS sc k) 2147483647
theorem xS_rng (sc : Int → Int) (k : Int) : 0 ≤ xS sc k ∧ xS sc k < 2147483648 := and31 _
theorem mod_rng {x n : Int} (hn : 0 < n) : 0 ≤ x % n ∧ x % n < n := ⟨Int.emod_nonneg x (by omega), Int.emod_lt_of_pos x hn⟩
section
variable {B : mmB} {d kc ks : Nat} {Q : mmQ} {pc : Nat} {lc st : List mmV} {sh : mmS} {mem : mmM}
theorem sr_irem {x y : Int} (hx : 0 ≤ x ∧ x < 2147483648) (hy : 0 < y ∧ y < 2147483648) (hd : decode B.2.1 pc = .ok (.irem, 1)) (k : mmT B d kc ks Q (pc + 1) lc ((0, x % y) :: st) sh mem) : mmT B d kc ks Q pc lc ((0, y) :: (0, x) :: st) sh mem :=
  st_irem (by rw [w32_id (by omega) (by omega)]; omega) hd (by rw [rem32_pos hx hy]; exact k)
theorem sr_ishr {x y : Int} (hx : 0 ≤ x ∧ x < 2147483648) (hy : 0 ≤ y ∧ y < 32) (hd : decode B.2.1 pc = .ok (.ishr, 1)) (k : mmT B d kc ks Q (pc + 1) lc ((0, x / p2 y) :: st) sh mem) : mmT B d kc ks Q pc lc ((0, y) :: (0, x) :: st) sh mem :=
  st_ishr hd (by rw [shr32_eq hx.1 hx.2 hy.1 hy.2]; exact k)
end
theorem shl8 {x : Int} (h : 0 ≤ x ∧ x < 8388608) : shl32 x 8 = 256 * x := by
  have e : Int32.ofInt x <<< (Int32.ofInt 8 &&& 31) = Int32.ofInt (256 * x) := by
    have h1 : (Int32.ofInt x).toBitVec <<< 8 = (Int32.ofInt (256 * x)).toBitVec := by
      apply BitVec.eq_of_toNat_eq
      rw [BitVec.toNat_shiftLeft, ofInt_bv h.1, ofInt_bv (by omega : (0 : Int) ≤ 256 * x), BitVec.toNat_ofNat, BitVec.toNat_ofNat, Nat.shiftLeft_eq]
      omega
    exact Int32.toBitVec_inj.mp h1
  unfold shl32
  rw [e, w32_toInt, w32_id (by omega) (by omega)]
theorem or8 {x c : Int} (h : 0 ≤ x ∧ x < 8388608) (hc : 0 ≤ c ∧ c < 256) : or32 (256 * x) c = 256 * x + c := by
  rw [or32_tn (by omega) (by omega) (by omega) (by omega)]
  have e1 : (256 * x).toNat = 2 ^ 8 * x.toNat := by omega
  have e2 := Nat.two_pow_add_eq_or_of_lt (i := 8) (b := c.toNat) (by omega) x.toNat
  rw [e1, ← e2]
  omega
/-- four letters told as one number, and back -/
theorem byX_pack {a b c d : Int} (ha : 0 ≤ a ∧ a < 128) (hb : 0 ≤ b ∧ b < 256) (hc : 0 ≤ c ∧ c < 256) (hd : 0 ≤ d ∧ d < 256) : byX (256 * (256 * (256 * a + b) + c) + d) 24 = a ∧ byX (256 * (256 * (256 * a + b) + c) + d) 16 = b ∧ byX (256 * (256 * (256 * a + b) + c) + d) 8 = c ∧ byX (256 * (256 * (256 * a + b) + c) + d) 0 = d := by
  have key : ∀ y : Int, 0 ≤ y → y < 2147483648 → and32 y 255 = y % 256 := by
    intro y h0 h1
    rw [show (255 : Int) = ((255 : Nat) : Int) from rfl, and32_lit h0 h1 (by decide), show 255 = 2 ^ 8 - 1 from rfl, Nat.and_two_pow_sub_one_eq_mod]
    omega
  have p8 : p2 8 = 256 := rfl
  have p16 : p2 16 = 65536 := rfl
  have p24 : p2 24 = 16777216 := rfl
  have p0 : p2 0 = 1 := rfl
  unfold byX
  rw [ushr32_eq (by omega) (by omega) (by omega) (by omega), ushr32_eq (by omega) (by omega) (by omega) (by omega), ushr32_eq (by omega) (by omega) (by omega) (by omega), ushr32_eq (by omega) (by omega) (by omega) (by omega), p8, p16, p24, p0, key _ (by omega) (by omega), key _ (by omega) (by omega), key _ (by omega) (by omega), key _ (by omega) (by omega)]
  omega
