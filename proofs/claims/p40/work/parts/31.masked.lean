/-! what is asked of the odds of M -/
def marksFr (mem m : mmM) : Prop := (∀ a, a ≠ 65 → a ≠ 74 → a ≠ 75 → (a < 91 ∨ 96 < a) → m a = mem a) ∧ ∀ j, j ≠ 31 → m 65 j = mem 65 j
theorem marksFr.refl (mem : mmM) : marksFr mem mem := ⟨fun _ _ _ _ _ => rfl, fun _ _ => rfl⟩
theorem marksFr.trans {m0 m1 m2 : mmM} (h : marksFr m0 m1) (h' : marksFr m1 m2) : marksFr m0 m2 := ⟨fun a a1 a2 a3 a4 => (h'.1 a a1 a2 a3 a4).trans (h.1 a a1 a2 a3 a4), fun j hj => (h'.2 j hj).trans (h.2 j hj)⟩
theorem marksFr.set {mem m : mmM} (h : marksFr mem m) (v : Int) : marksFr mem (mset m 65 31 v) := ⟨fun a a1 a2 a3 a4 => by rw [mset_ne a1]; exact h.1 a a1 a2 a3 a4, fun j hj => by rw [mset_at, if_neg hj]; exact h.2 j hj⟩
theorem chFr.marks {mem m : mmM} (h : chFr mem m) : marksFr mem m := ⟨fun a _ a2 a3 a4 => h a a2 a3 a4, fun j _ => by rw [h 65 (by decide) (by decide) (by omega)]⟩
theorem marksFr.ch {mem m : mmM} (h : marksFr mem m) (e : m 65 31 = mem 65 31) : chFr mem m := fun a a2 a3 a4 => by
  by_cases q : a = 65
  · subst q
    funext j
    by_cases z : j = 31
    · rw [z, e]
    · exact h.2 j z
  · exact h.1 a q a2 a3 a4
theorem marksFr.key {mem m : mmM} (h : marksFr mem m) (mk : Int) : keyEq (mset mem 65 31 mk) (mset m 65 31 mk) := by
  have k : ∀ a, a ≠ 65 → a ≠ 74 → a ≠ 75 → (a < 91 ∨ 96 < a) → mset m 65 31 mk a = mset mem 65 31 mk a := fun a a1 a2 a3 a4 => by rw [mset_ne a1, mset_ne a1]; exact h.1 a a1 a2 a3 a4
  refine ⟨⟨?_, ?_, ?_⟩, ⟨?_, ?_⟩, ⟨?_, ?_, ?_, ?_⟩, ?_, ?_, ?_⟩
  · rw [mset_at, mset_at, if_neg (by decide), if_neg (by decide)]; exact h.2 27 (by decide)
  · rw [mset_at, mset_at, if_neg (by decide), if_neg (by decide)]; exact h.2 28 (by decide)
  · rw [mset_same, mset_same]
  all_goals exact k _ (by decide) (by decide) (by decide) (by omega)
def takeM (mem : mmM) : Prop := ∀ a, 0 ≤ a → a < 8 → 0 ≤ mem 84 a ∧ mem 84 a ≤ 100
def EM (mem : mmM) (FM : Int → Int → Int) (mk sure most : Int) : odU := odN (mem 65 27) (fgS (mem 79) (FM mk) sure) (tkN mem mk) (leapM mem) most.toNat
theorem xor32_set {x k : Int} (h0 : 0 ≤ x) (h1 : x < 16777216) (k0 : 0 ≤ k) (k1 : k < 24) (hb : ¬ (and32 (shr32 x k) 1 = 1)) : xor32 x (shl32 1 k) = x + p2 k ∧ xor32 (x + p2 k) (shl32 1 k) = x ∧ (0 ≤ x + p2 k ∧ x + p2 k < 16777216) := by
  have hb' : ¬ bitS x k := fun z => hb ((bit_iff h0 (by omega) k0 (by omega)).mpr z)
  have e := or32_bit h0 (by omega) k0 (by omega) hb'
  have es := shl1_eq k0 (show k < 31 by omega)
  have e24 : p2 24 = 16777216 := by decide +kernel
  have pm := p2_lt k0 k1
  have pp := p2_pos k
  have o := or32_b (b := 24) h0 (by omega) (show 0 ≤ p2 k by omega) (by omega) (by decide)
  rw [es] at e
  rw [e] at o
  have bs : bitS (x + p2 k) k := (bitS_tb (by omega)).mpr (by rw [o.2, tb_p2 k0 k0, decide_eq_true rfl, Bool.or_true])
  refine ⟨?_, ?_, by omega⟩
  · rw [es, ← e, xor32_tn h0 (by omega) (by omega) (by omega), or32_tn h0 (by omega) (by omega) (by omega)]
    congr 1
    apply Nat.eq_of_testBit_eq
    intro i
    rw [Nat.testBit_xor, Nat.testBit_or]
    have t : (p2 k).toNat.testBit i = decide (k.toNat = i) := by
      unfold p2
      rw [Int.toNat_natCast, Nat.testBit_two_pow]
    rw [t]
    by_cases q : k.toNat = i
    · have : x.toNat.testBit i = false := by
        rw [← q]
        have := fun z => hb' ((bitS_tb h0).mpr z)
        unfold tb at this
        simpa using this
      rw [this, Bool.false_or, Bool.false_xor]
    · rw [decide_eq_false q, Bool.or_false, Bool.xor_false]
  · rw [xor32_bit (by omega) (by omega) k0 (by omega) bs]
    omega