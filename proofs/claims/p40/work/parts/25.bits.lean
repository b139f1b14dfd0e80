/-! counting bits -/
theorem and_split (k X a M m : Nat) (ha : a < 2 ^ k) (hm : m < 2 ^ k) : (2 ^ k * X + a) &&& (2 ^ k * M + m) = 2 ^ k * (X &&& M) + (a &&& m) := by
  apply Nat.eq_of_testBit_eq
  intro i
  have h : a &&& m < 2 ^ k := Nat.lt_of_le_of_lt Nat.and_le_left ha
  rw [Nat.testBit_and, Nat.testBit_two_pow_mul_add _ ha, Nat.testBit_two_pow_mul_add _ hm, Nat.testBit_two_pow_mul_add _ h]
  split
  · rw [Nat.testBit_and]
  · rw [Nat.testBit_and]
theorem and_split8 (X a M m : Nat) (ha : a < 256) (hm : m < 256) : (256 * X + a) &&& (256 * M + m) = 256 * (X &&& M) + (a &&& m) := and_split 8 X a M m ha hm
/-- one byte's share of the first two steps -/
def bc1 (a : Nat) : Nat := a - ((a / 2) &&& 85)
def bc2 (a : Nat) : Nat := (a &&& 51) + ((a / 4) &&& 51)
theorem bc_tab : ∀ a : Fin 256, (∀ t : Fin 2, (128 * t.val + a.val / 2) &&& 85 = (a.val / 2) &&& 85) ∧ ((a.val / 2) &&& 85 ≤ a.val) ∧ bc1 a.val < 256 ∧ (∀ t : Fin 4, (64 * t.val + bc1 a.val / 4) &&& 51 = (bc1 a.val / 4) &&& 51) ∧ bc2 (bc1 a.val) / 16 ≤ 4 ∧ bc2 (bc1 a.val) % 16 ≤ 4 ∧ bc2 (bc1 a.val) / 16 + bc2 (bc1 a.val) % 16 = a.val % 2 + a.val / 2 % 2 + a.val / 4 % 2 + a.val / 8 % 2 + a.val / 16 % 2 + a.val / 32 % 2 + a.val / 64 % 2 + a.val / 128 % 2 := by decide +kernel
theorem bc_s1 {a X M : Nat} (ha : a < 256) : ((256 * X + a) / 2) &&& (256 * M + 85) = 256 * ((X / 2) &&& M) + ((a / 2) &&& 85) := by
  have e : (256 * X + a) / 2 = 256 * (X / 2) + (128 * (X % 2) + a / 2) := by omega
  rw [e, and_split8 _ _ _ _ (by omega) (by decide)]
  have := (bc_tab ⟨a, ha⟩).1 ⟨X % 2, by omega⟩
  simp only at this
  rw [this]
theorem bc_s2 {b X M : Nat} (hb : b < 256) (h : ∀ t : Fin 4, (64 * t.val + b / 4) &&& 51 = (b / 4) &&& 51) : ((256 * X + b) / 4) &&& (256 * M + 51) = 256 * ((X / 4) &&& M) + ((b / 4) &&& 51) := by
  have e : (256 * X + b) / 4 = 256 * (X / 4) + (64 * (X % 4) + b / 4) := by omega
  rw [e, and_split8 _ _ _ _ (by omega) (by decide)]
  have := h ⟨X % 4, by omega⟩
  simp only at this
  rw [this]
def bcy (x : Nat) : Nat := x - ((x / 2) &&& 1431655765)
def bcz (y : Nat) : Nat := (y &&& 858993459) + ((y / 4) &&& 858993459)
def bcu (z : Nat) : Nat := (z + z / 16) &&& 252645135
theorem and_small {a M m : Nat} (ha : a < 256) (hm : m < 256) : a &&& (256 * M + m) = a &&& m := by
  have := and_split8 0 a M m ha hm
  rw [Nat.mul_zero, Nat.zero_add, Nat.zero_and, Nat.mul_zero, Nat.zero_add] at this
  exact this
theorem bcy_eq {a b c : Nat} (ha : a < 256) (hb : b < 256) (hc : c < 256) : bcy (256 * (256 * c + b) + a) = 256 * (256 * bc1 c + bc1 b) + bc1 a := by
  unfold bcy bc1
  have h1 := (bc_tab ⟨a, ha⟩).2.1
  have h2 := (bc_tab ⟨b, hb⟩).2.1
  have h3 := (bc_tab ⟨c, hc⟩).2.1
  simp only at h1 h2 h3
  rw [show (1431655765 : Nat) = 256 * 5592405 + 85 from rfl, bc_s1 ha, show (5592405 : Nat) = 256 * 21845 + 85 from rfl, bc_s1 hb, show (21845 : Nat) = 256 * 85 + 85 from rfl, and_small (by omega) (by decide)]
  omega
theorem and_15 (A B : Nat) (hB : B < 16) (hA : A < 16) : (16 * A + B) &&& 15 = B := by
  rw [show (15 : Nat) = 2 ^ 4 - 1 by decide, Nat.and_two_pow_sub_one_eq_mod]
  omega
theorem bcu_eq {a b c : Nat} (ha : a / 16 ≤ 4 ∧ a % 16 ≤ 4) (hb : b / 16 ≤ 4 ∧ b % 16 ≤ 4) (hc : c / 16 ≤ 4 ∧ c % 16 ≤ 4) : bcu (256 * (256 * c + b) + a) = 256 * (256 * (c / 16 + c % 16) + (b / 16 + b % 16)) + (a / 16 + a % 16) := by
  unfold bcu
  have e : 256 * (256 * c + b) + a + (256 * (256 * c + b) + a) / 16 = 256 * (256 * (16 * (c / 16) + (c / 16 + c % 16)) + (16 * (b / 16 + c % 16) + (b / 16 + b % 16))) + (16 * (a / 16 + b % 16) + (a / 16 + a % 16)) := by omega
  rw [e, show (252645135 : Nat) = 256 * 986895 + 15 from rfl, and_split8 _ _ _ _ (by omega) (by decide), and_15 _ _ (by omega) (by omega), show (986895 : Nat) = 256 * 3855 + 15 from rfl, and_split8 _ _ _ _ (by omega) (by decide), and_15 _ _ (by omega) (by omega), show (3855 : Nat) = 256 * 15 + 15 from rfl, and_small (by omega) (by decide), and_15 _ _ (by omega) (by omega)]
/-- how many bits are set, of 24 -/
def popc (x : Int) : Int := sumTo (fun i => x / p2 i % 2) 24
theorem popc_bnd (x : Int) : 0 ≤ popc x ∧ popc x ≤ 24 := by
  have := sumTo_bnd (f := fun i => x / p2 i % 2) (n := 24) (b := 1) (fun i _ _ => by show 0 ≤ x / p2 i % 2 ∧ x / p2 i % 2 ≤ 1; omega)
  unfold popc
  omega
theorem and32_lit {x : Int} {m : Nat} (h0 : 0 ≤ x) (h1 : x < 2147483648) (hm : m < 2147483648) : and32 x (m : Int) = ((x.toNat &&& m : Nat) : Int) := by
  have h := and32_nat (x := x.toNat) (y := m) (by omega) hm
  rw [Int.toNat_of_nonneg h0] at h
  exact h
theorem ushr32_nat {x : Int} {k : Nat} (h0 : 0 ≤ x) (h1 : x < 2147483648) (hk : k < 32) : ushr32 x (k : Int) = ((x.toNat / 2 ^ k : Nat) : Int) := by
  rw [ushr32_eq h0 h1 (by omega) (by omega)]
  unfold p2
  rw [Int.natCast_ediv, Int.toNat_of_nonneg h0]
  rfl
theorem ushrN {n : Nat} (k : Nat) (h : n < 2147483648) (hk : k < 32) : ushr32 (n : Int) (k : Int) = ((n / 2 ^ k : Nat) : Int) := by
  have := ushr32_nat (x := (n : Int)) (k := k) (by omega) (by omega) hk
  rw [this]
  rfl
theorem popc_eq (x : Int) : popc x = 0 + x / 1 % 2 + x / 2 % 2 + x / 4 % 2 + x / 8 % 2 + x / 16 % 2 + x / 32 % 2 + x / 64 % 2 + x / 128 % 2 + x / 256 % 2 + x / 512 % 2 + x / 1024 % 2 + x / 2048 % 2 + x / 4096 % 2 + x / 8192 % 2 + x / 16384 % 2 + x / 32768 % 2 + x / 65536 % 2 + x / 131072 % 2 + x / 262144 % 2 + x / 524288 % 2 + x / 1048576 % 2 + x / 2097152 % 2 + x / 4194304 % 2 + x / 8388608 % 2 := by
  have e0 : p2 ((0 : Nat) : Int) = 1 := by decide +kernel
  have e1 : p2 ((1 : Nat) : Int) = 2 := by decide +kernel
  have e2 : p2 ((2 : Nat) : Int) = 4 := by decide +kernel
  have e3 : p2 ((3 : Nat) : Int) = 8 := by decide +kernel
  have e4 : p2 ((4 : Nat) : Int) = 16 := by decide +kernel
  have e5 : p2 ((5 : Nat) : Int) = 32 := by decide +kernel
  have e6 : p2 ((6 : Nat) : Int) = 64 := by decide +kernel
  have e7 : p2 ((7 : Nat) : Int) = 128 := by decide +kernel
  have e8 : p2 ((8 : Nat) : Int) = 256 := by decide +kernel
  have e9 : p2 ((9 : Nat) : Int) = 512 := by decide +kernel
  have e10 : p2 ((10 : Nat) : Int) = 1024 := by decide +kernel
  have e11 : p2 ((11 : Nat) : Int) = 2048 := by decide +kernel
  have e12 : p2 ((12 : Nat) : Int) = 4096 := by decide +kernel
  have e13 : p2 ((13 : Nat) : Int) = 8192 := by decide +kernel
  have e14 : p2 ((14 : Nat) : Int) = 16384 := by decide +kernel
  have e15 : p2 ((15 : Nat) : Int) = 32768 := by decide +kernel
  have e16 : p2 ((16 : Nat) : Int) = 65536 := by decide +kernel
  have e17 : p2 ((17 : Nat) : Int) = 131072 := by decide +kernel
  have e18 : p2 ((18 : Nat) : Int) = 262144 := by decide +kernel
  have e19 : p2 ((19 : Nat) : Int) = 524288 := by decide +kernel
  have e20 : p2 ((20 : Nat) : Int) = 1048576 := by decide +kernel
  have e21 : p2 ((21 : Nat) : Int) = 2097152 := by decide +kernel
  have e22 : p2 ((22 : Nat) : Int) = 4194304 := by decide +kernel
  have e23 : p2 ((23 : Nat) : Int) = 8388608 := by decide +kernel
  show 0 + x / p2 ((0 : Nat) : Int) % 2 + x / p2 ((1 : Nat) : Int) % 2 + x / p2 ((2 : Nat) : Int) % 2 + x / p2 ((3 : Nat) : Int) % 2 + x / p2 ((4 : Nat) : Int) % 2 + x / p2 ((5 : Nat) : Int) % 2 + x / p2 ((6 : Nat) : Int) % 2 + x / p2 ((7 : Nat) : Int) % 2 + x / p2 ((8 : Nat) : Int) % 2 + x / p2 ((9 : Nat) : Int) % 2 + x / p2 ((10 : Nat) : Int) % 2 + x / p2 ((11 : Nat) : Int) % 2 + x / p2 ((12 : Nat) : Int) % 2 + x / p2 ((13 : Nat) : Int) % 2 + x / p2 ((14 : Nat) : Int) % 2 + x / p2 ((15 : Nat) : Int) % 2 + x / p2 ((16 : Nat) : Int) % 2 + x / p2 ((17 : Nat) : Int) % 2 + x / p2 ((18 : Nat) : Int) % 2 + x / p2 ((19 : Nat) : Int) % 2 + x / p2 ((20 : Nat) : Int) % 2 + x / p2 ((21 : Nat) : Int) % 2 + x / p2 ((22 : Nat) : Int) % 2 + x / p2 ((23 : Nat) : Int) % 2 = _
  rw [e0, e1, e2, e3, e4, e5, e6, e7, e8, e9, e10, e11, e12, e13, e14, e15, e16, e17, e18, e19, e20, e21, e22, e23]
theorem add24 (t0 t1 t2 t3 t4 t5 t6 t7 t8 t9 t10 t11 t12 t13 t14 t15 t16 t17 t18 t19 t20 t21 t22 t23 : Nat) : 0 + (t0 : Int) + (t1 : Int) + (t2 : Int) + (t3 : Int) + (t4 : Int) + (t5 : Int) + (t6 : Int) + (t7 : Int) + (t8 : Int) + (t9 : Int) + (t10 : Int) + (t11 : Int) + (t12 : Int) + (t13 : Int) + (t14 : Int) + (t15 : Int) + (t16 : Int) + (t17 : Int) + (t18 : Int) + (t19 : Int) + (t20 : Int) + (t21 : Int) + (t22 : Int) + (t23 : Int) = (((t0 + t1 + t2 + t3 + t4 + t5 + t6 + t7) + (t8 + t9 + t10 + t11 + t12 + t13 + t14 + t15) + (t16 + t17 + t18 + t19 + t20 + t21 + t22 + t23) : Nat) : Int) := by omega
theorem popc_nat (a b c : Nat) (ha : a < 256) (hb : b < 256) (hc : c < 256) : popc ((256 * (256 * c + b) + a : Nat) : Int) = (((a % 2 + a / 2 % 2 + a / 4 % 2 + a / 8 % 2 + a / 16 % 2 + a / 32 % 2 + a / 64 % 2 + a / 128 % 2) + (b % 2 + b / 2 % 2 + b / 4 % 2 + b / 8 % 2 + b / 16 % 2 + b / 32 % 2 + b / 64 % 2 + b / 128 % 2) + (c % 2 + c / 2 % 2 + c / 4 % 2 + c / 8 % 2 + c / 16 % 2 + c / 32 % 2 + c / 64 % 2 + c / 128 % 2) : Nat) : Int) := by
  have p0 : ((256 * (256 * c + b) + a : Nat) : Int) / 1 % 2 = ((a % 2 : Nat) : Int) := by omega
  have p1 : ((256 * (256 * c + b) + a : Nat) : Int) / 2 % 2 = ((a / 2 % 2 : Nat) : Int) := by clear p0; omega
  have p2 : ((256 * (256 * c + b) + a : Nat) : Int) / 4 % 2 = ((a / 4 % 2 : Nat) : Int) := by clear p0 p1; omega
  have p3 : ((256 * (256 * c + b) + a : Nat) : Int) / 8 % 2 = ((a / 8 % 2 : Nat) : Int) := by clear p0 p1 p2; omega
  have p4 : ((256 * (256 * c + b) + a : Nat) : Int) / 16 % 2 = ((a / 16 % 2 : Nat) : Int) := by clear p0 p1 p2 p3; omega
  have p5 : ((256 * (256 * c + b) + a : Nat) : Int) / 32 % 2 = ((a / 32 % 2 : Nat) : Int) := by clear p0 p1 p2 p3 p4; omega
  have p6 : ((256 * (256 * c + b) + a : Nat) : Int) / 64 % 2 = ((a / 64 % 2 : Nat) : Int) := by clear p0 p1 p2 p3 p4 p5; omega
  have p7 : ((256 * (256 * c + b) + a : Nat) : Int) / 128 % 2 = ((a / 128 % 2 : Nat) : Int) := by clear p0 p1 p2 p3 p4 p5 p6; omega
  have p8 : ((256 * (256 * c + b) + a : Nat) : Int) / 256 % 2 = ((b % 2 : Nat) : Int) := by clear p0 p1 p2 p3 p4 p5 p6 p7; omega
  have p9 : ((256 * (256 * c + b) + a : Nat) : Int) / 512 % 2 = ((b / 2 % 2 : Nat) : Int) := by clear p0 p1 p2 p3 p4 p5 p6 p7 p8; omega
  have p10 : ((256 * (256 * c + b) + a : Nat) : Int) / 1024 % 2 = ((b / 4 % 2 : Nat) : Int) := by clear p0 p1 p2 p3 p4 p5 p6 p7 p8 p9; omega
  have p11 : ((256 * (256 * c + b) + a : Nat) : Int) / 2048 % 2 = ((b / 8 % 2 : Nat) : Int) := by clear p0 p1 p2 p3 p4 p5 p6 p7 p8 p9 p10; omega
  have p12 : ((256 * (256 * c + b) + a : Nat) : Int) / 4096 % 2 = ((b / 16 % 2 : Nat) : Int) := by clear p0 p1 p2 p3 p4 p5 p6 p7 p8 p9 p10 p11; omega
  have p13 : ((256 * (256 * c + b) + a : Nat) : Int) / 8192 % 2 = ((b / 32 % 2 : Nat) : Int) := by clear p0 p1 p2 p3 p4 p5 p6 p7 p8 p9 p10 p11 p12; omega
  have p14 : ((256 * (256 * c + b) + a : Nat) : Int) / 16384 % 2 = ((b / 64 % 2 : Nat) : Int) := by clear p0 p1 p2 p3 p4 p5 p6 p7 p8 p9 p10 p11 p12 p13; omega
  have p15 : ((256 * (256 * c + b) + a : Nat) : Int) / 32768 % 2 = ((b / 128 % 2 : Nat) : Int) := by clear p0 p1 p2 p3 p4 p5 p6 p7 p8 p9 p10 p11 p12 p13 p14; omega
  have p16 : ((256 * (256 * c + b) + a : Nat) : Int) / 65536 % 2 = ((c % 2 : Nat) : Int) := by clear p0 p1 p2 p3 p4 p5 p6 p7 p8 p9 p10 p11 p12 p13 p14 p15; omega
  have p17 : ((256 * (256 * c + b) + a : Nat) : Int) / 131072 % 2 = ((c / 2 % 2 : Nat) : Int) := by clear p0 p1 p2 p3 p4 p5 p6 p7 p8 p9 p10 p11 p12 p13 p14 p15 p16; omega
  have p18 : ((256 * (256 * c + b) + a : Nat) : Int) / 262144 % 2 = ((c / 4 % 2 : Nat) : Int) := by clear p0 p1 p2 p3 p4 p5 p6 p7 p8 p9 p10 p11 p12 p13 p14 p15 p16 p17; omega
  have p19 : ((256 * (256 * c + b) + a : Nat) : Int) / 524288 % 2 = ((c / 8 % 2 : Nat) : Int) := by clear p0 p1 p2 p3 p4 p5 p6 p7 p8 p9 p10 p11 p12 p13 p14 p15 p16 p17 p18; omega
  have p20 : ((256 * (256 * c + b) + a : Nat) : Int) / 1048576 % 2 = ((c / 16 % 2 : Nat) : Int) := by clear p0 p1 p2 p3 p4 p5 p6 p7 p8 p9 p10 p11 p12 p13 p14 p15 p16 p17 p18 p19; omega
  have p21 : ((256 * (256 * c + b) + a : Nat) : Int) / 2097152 % 2 = ((c / 32 % 2 : Nat) : Int) := by clear p0 p1 p2 p3 p4 p5 p6 p7 p8 p9 p10 p11 p12 p13 p14 p15 p16 p17 p18 p19 p20; omega
  have p22 : ((256 * (256 * c + b) + a : Nat) : Int) / 4194304 % 2 = ((c / 64 % 2 : Nat) : Int) := by clear p0 p1 p2 p3 p4 p5 p6 p7 p8 p9 p10 p11 p12 p13 p14 p15 p16 p17 p18 p19 p20 p21; omega
  have p23 : ((256 * (256 * c + b) + a : Nat) : Int) / 8388608 % 2 = ((c / 128 % 2 : Nat) : Int) := by clear p0 p1 p2 p3 p4 p5 p6 p7 p8 p9 p10 p11 p12 p13 p14 p15 p16 p17 p18 p19 p20 p21 p22; omega
  rw [popc_eq, p0, p1, p2, p3, p4, p5, p6, p7, p8, p9, p10, p11, p12, p13, p14, p15, p16, p17, p18, p19, p20, p21, p22, p23]
  exact add24 _ _ _ _ _ _ _ _ _ _ _ _ _ _ _ _ _ _ _ _ _ _ _ _
theorem bc_fin {u u0 u1 u2 : Nat} (h : u = 256 * (256 * u2 + u1) + u0) (h0 : u0 ≤ 8) (h1 : u1 ≤ 8) (h2 : u2 ≤ 8) : (u + u / 256 + (u + u / 256) / 65536) % 2 ^ 6 = u0 + u1 + u2 := by
  have e1 : u / 256 = 256 * u2 + u1 := by omega
  have e2 : (u + u / 256) / 65536 = u2 := by
    rw [e1, h]
    omega
  rw [e2, e1, h]
  omega