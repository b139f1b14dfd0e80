/-! an evening -/
theorem bit_split {x k : Nat} (h : (x / 2 ^ k) % 2 = 1) : 2 ^ k ≤ x ∧ ((x - 2 ^ k) / 2 ^ k) % 2 = 0 ∧ x = (x - 2 ^ k) ||| 2 ^ k := by
  have hp : 0 < 2 ^ k := Nat.pow_pos (by decide)
  have h1 : 2 ^ k ≤ x := by
    refine Nat.le_of_not_lt (fun z => ?_)
    rw [Nat.div_eq_of_lt z] at h
    omega
  have h2 : ((x - 2 ^ k) / 2 ^ k) % 2 = 0 := by
    have := Nat.add_div_right (x - 2 ^ k) hp
    rw [Nat.sub_add_cancel h1] at this
    omega
  refine ⟨h1, h2, ?_⟩
  rw [or_bit_nat h2, Nat.sub_add_cancel h1]
theorem xor_bit_nat {x k : Nat} (h : (x / 2 ^ k) % 2 = 1) : x ^^^ 2 ^ k = x - 2 ^ k := by
  have s := bit_split h
  have hb : (x - 2 ^ k).testBit k = false := by
    rw [Nat.testBit_eq_decide_div_mod_eq]
    simp only [decide_eq_false_iff_not]
    omega
  generalize x - 2 ^ k = y at s hb
  rw [s.2.2]
  apply Nat.eq_of_testBit_eq
  intro i
  rw [Nat.testBit_xor, Nat.testBit_or, Nat.testBit_two_pow]
  by_cases e : k = i
  · subst e
    rw [hb]
    simp
  · simp [e]
theorem and_bit_nat {x k : Nat} (h : (x / 2 ^ k) % 2 = 1) : x &&& 2 ^ k = 2 ^ k := by
  have s := bit_split h
  generalize x - 2 ^ k = y at s
  rw [s.2.2]
  apply Nat.eq_of_testBit_eq
  intro i
  rw [Nat.testBit_and, Nat.testBit_or, Nat.testBit_two_pow]
  by_cases e : k = i <;> simp [e]
theorem p2_30 {k : Int} (k1 : k < 31) : p2 k < 2147483648 := by
  have := p2_mono (i := k) (j := 30) (by omega)
  have e : p2 30 = 1073741824 := by decide
  omega
theorem bit_nat {x k : Int} (h0 : 0 ≤ x) (hb : bitS x k) : (x.toNat / 2 ^ k.toNat) % 2 = 1 := by
  unfold bitS p2 at hb
  rw [show x = ((x.toNat : Nat) : Int) by omega] at hb
  omega
/-- a bit that is set is taken away -/
theorem xor32_bit {x k : Int} (h0 : 0 ≤ x) (h1 : x < 2147483648) (k0 : 0 ≤ k) (k1 : k < 31) (hb : bitS x k) : xor32 x (shl32 1 k) = x - p2 k := by
  rw [shl1_eq k0 k1]
  have hp := p2_30 k1
  have h := xor32_nat (x := x.toNat) (y := 2 ^ k.toNat) (by omega) (by unfold p2 at hp; omega)
  rw [Int.toNat_of_nonneg h0] at h
  have e2 : ((2 ^ k.toNat : Nat) : Int) = p2 k := rfl
  rw [e2] at h
  rw [h, xor_bit_nat (bit_nat h0 hb)]
  have := (bit_split (bit_nat h0 hb)).1
  unfold p2
  omega
theorem and32_bit {x k : Int} (h0 : 0 ≤ x) (h1 : x < 2147483648) (k0 : 0 ≤ k) (k1 : k < 31) (hb : bitS x k) : and32 x (shl32 1 k) = p2 k := by
  rw [shl1_eq k0 k1]
  have hp := p2_30 k1
  have h := and32_nat (x := x.toNat) (y := 2 ^ k.toNat) (by omega) (by unfold p2 at hp; omega)
  rw [Int.toNat_of_nonneg h0] at h
  have e2 : ((2 ^ k.toNat : Nat) : Int) = p2 k := rfl
  rw [e2] at h
  rw [h, and_bit_nat (bit_nat h0 hb)]
  rfl
theorem bv_not (x y : BitVec 32) : x &&& (y ^^^ BitVec.allOnes 32) = x ^^^ (x &&& y) := by
  apply BitVec.eq_of_getLsbD_eq
  intro i hi
  simp only [BitVec.getLsbD_and, BitVec.getLsbD_xor, BitVec.getLsbD_allOnes]
  cases x.getLsbD i <;> cases y.getLsbD i <;> simp [hi]
theorem ofInt_toInt32 (a : Int32) : Int32.ofInt a.toInt = a := by
  apply Int32.toInt_inj.mp
  rw [w32_toInt, w32_id a.le_toInt a.toInt_lt]
theorem andnot32 (x y : Int) : and32 x (xor32 y (-1)) = xor32 x (and32 x y) := by
  unfold and32 xor32
  rw [ofInt_toInt32, ofInt_toInt32]
  congr 1
  apply Int32.toBitVec_inj.mp
  exact bv_not _ _
theorem clear32_bit {x k : Int} (h0 : 0 ≤ x) (h1 : x < 2147483648) (k0 : 0 ≤ k) (k1 : k < 31) (hb : bitS x k) : and32 x (xor32 (shl32 1 k) (-1)) = x - p2 k := by
  rw [andnot32, and32_bit h0 h1 k0 k1 hb, ← shl1_eq k0 k1, xor32_bit h0 h1 k0 k1 hb, shl1_eq k0 k1]
theorem bit_sub {x k : Int} (h0 : 0 ≤ x) (hb : bitS x k) : 0 ≤ x - p2 k := by
  have := (bit_split (bit_nat h0 hb)).1
  unfold p2
  omega
/-! ## what an evening is: left losses and the place come to, after k said -/
def evSt (to : Int → Int) (L : Int) : Nat → Int × Int
  | 0 => (L, 0)
  | k + 1 => if ((evSt to L k).1 / p2 (evSt to L k).2) % 2 = 1 then ((evSt to L k).1 - p2 (evSt to L k).2, to (evSt to L k).2 + 1) else ((evSt to L k).1, (evSt to L k).2 + 1)
def evV (to : Int → Int) (L : Int) (k : Nat) : Int := if ((evSt to L k).1 / p2 (evSt to L k).2) % 2 = 1 then to (evSt to L k).2 else (evSt to L k).2
def evAlive (n : Int) (to : Int → Int) (L : Int) (k : Nat) : Prop := k < 200 ∧ (evSt to L k).2 < n ∧ ¬ evV to L k = -1
def evEnd (n : Int) (to : Int → Int) (L : Int) (k : Nat) : Prop := (∀ i, i < k → evAlive n to L i) ∧ ¬ evAlive n to L k
def evOut (n : Int) (to : Int → Int) (L : Int) (k : Nat) : Int := if n ≤ (evSt to L k).2 then 0 else if 200 ≤ k then 2 else 1
def evStop (n : Int) (to : Int → Int) (L : Int) (k : Nat) : Int := if evOut n to L k = 1 then (evSt to L k).2 else -1
def evSec (len to : Int → Int) (L : Int) (k : Nat) : Int := sumTo (fun j => len (evV to L j.toNat)) k
theorem evSt_snd (to : Int → Int) (L : Int) (k : Nat) : (evSt to L (k + 1)).2 = evV to L k + 1 := by
  unfold evV
  show (if _ then _ else _ : Int × Int).2 = _
  split <;> rfl
theorem evSt_fst (to : Int → Int) (L : Int) (k : Nat) : (evSt to L (k + 1)).1 = if ((evSt to L k).1 / p2 (evSt to L k).2) % 2 = 1 then (evSt to L k).1 - p2 (evSt to L k).2 else (evSt to L k).1 := by
  show (if _ then _ else _ : Int × Int).1 = _
  split <;> rfl
theorem evSec_succ (len to : Int → Int) (L : Int) (k : Nat) : evSec len to L (k + 1) = evSec len to L k + len (evV to L k) := rfl
theorem evEnd_unique {n : Int} {to : Int → Int} {L : Int} {k k' : Nat} (h : evEnd n to L k) (h' : evEnd n to L k') : k = k' := by
  rcases Nat.lt_trichotomy k k' with q | q | q
  · exact absurd (h'.1 k q) h.2
  · exact q
  · exact absurd (h.1 k' q) h'.2
theorem evSt_bnd {n : Int} {to : Int → Int} {L : Int} (hn : 0 ≤ n) (ht : ∀ i, 0 ≤ i → i < n → -1 ≤ to i ∧ to i < n) (hL : 0 ≤ L) : ∀ k : Nat, (∀ i, i < k → evAlive n to L i) → (0 ≤ (evSt to L k).1 ∧ (evSt to L k).1 ≤ L) ∧ 0 ≤ (evSt to L k).2 ∧ (evSt to L k).2 ≤ n := by
  intro k
  induction k with
  | zero => intro _; exact ⟨⟨hL, Int.le_refl _⟩, by show (0 : Int) ≤ 0; omega, hn⟩
  | succ k ih =>
    intro h
    have i1 := ih (fun i q => h i (by omega))
    have a := h k (by omega)
    have t := ht (evSt to L k).2 i1.2.1 a.2.1
    have v : evV to L k = to (evSt to L k).2 ∨ evV to L k = (evSt to L k).2 := by
      unfold evV
      split
      · exact Or.inl rfl
      · exact Or.inr rfl
    have a3 := a.2.2
    refine ⟨?_, ?_, ?_⟩
    · rw [evSt_fst]
      split
      · rename_i q
        have := bit_sub i1.1.1 q
        have := p2_pos (evSt to L k).2
        omega
      · exact i1.1
    · rw [evSt_snd]
      omega
    · rw [evSt_snd]
      have := a.2.1
      omega
theorem evV_bnd {n : Int} {to : Int → Int} {L : Int} (hn : 0 ≤ n) (ht : ∀ i, 0 ≤ i → i < n → -1 ≤ to i ∧ to i < n) (hL : 0 ≤ L) {k : Nat} (h : ∀ i, i < k → evAlive n to L i) (hc : (evSt to L k).2 < n) : -1 ≤ evV to L k ∧ evV to L k < n := by
  have b := evSt_bnd hn ht hL k h
  have t := ht (evSt to L k).2 b.2.1 hc
  unfold evV
  split <;> omega
theorem evSec_bnd {len to : Int → Int} {L n : Int} (hl : ∀ i, 0 ≤ i → i < n → 0 ≤ len i ∧ len i ≤ 99) (hn : 0 ≤ n) (ht : ∀ i, 0 ≤ i → i < n → -1 ≤ to i ∧ to i < n) (hL : 0 ≤ L) : ∀ k : Nat, (∀ i, i < k → evAlive n to L i) → 0 ≤ evSec len to L k ∧ evSec len to L k ≤ 99 * k := by
  intro k
  induction k with
  | zero => intro _; exact ⟨Int.le_refl _, by show (0 : Int) ≤ 99 * 0; omega⟩
  | succ k ih =>
    intro h
    have i1 := ih (fun i q => h i (by omega))
    have a := h k (by omega)
    have v := evV_bnd hn ht hL (fun i q => h i (by omega)) a.2.1
    have l := hl (evV to L k) (by have := a.2.2; omega) v.2
    rw [evSec_succ]
    omega
theorem cn_X1_saidAt {d : Nat} {P : Int → mmM → Prop} {mem : mmM} {x1 : Int} (h : mmT bX1_saidAt d 0 0 (mQ 0 P) 0 [(2, 50), (0, x1)] [] mS mem) : con 0 bX1_saidAt d [(2, 50), (0, x1)] mem P := mmC_of [(2, 50), (0, x1)] ok_X1_saidAt.2.2.2.2 rfl (Nat.le_of_ble_eq_true rfl) h
theorem bk_X1_saidAt_0 {d : Nat} {P : Int → mmM → Prop} {mem : mmM} {x1 : Int}
  (q1 : ¬ (and32 (shr32 (mem 50 7) x1) 1) = 0 → ¬ (0 ≤ x1 ∧ x1 < ((mset mem 50 7 (xor32 (mem 50 7) (shl32 1 x1))) 23 1)) → P (-1) (mset mem 50 7 (xor32 (mem 50 7) (shl32 1 x1))))
  (q2 : ¬ (and32 (shr32 (mem 50 7) x1) 1) = 0 → (0 ≤ x1 ∧ x1 < ((mset mem 50 7 (xor32 (mem 50 7) (shl32 1 x1))) 23 1)) → P (mem 38 x1) (mset mem 50 7 (xor32 (mem 50 7) (shl32 1 x1))))
  (q3 : (and32 (shr32 (mem 50 7) x1) 1) = 0 → P x1 mem)
  (hd2 : 2 ≤ d := by omega)
  (s1 : ¬ (and32 (shr32 (mem 50 7) x1) 1) = 0 → R32 x1 := by intros; first | omega | assumption | solve_by_elim)
  (s2 : ¬ (and32 (shr32 (mem 50 7) x1) 1) = 0 → (0 ≤ x1 ∧ x1 < ((mset mem 50 7 (xor32 (mem 50 7) (shl32 1 x1))) 23 1)) → 0 ≤ x1 ∧ x1 < 24 := by intros; first | omega | assumption | solve_by_elim)
  : mmT bX1_saidAt d 0 0 (mQ 0 P) 0 [(2, 50), (0, x1)] [] mS mem := by
  refine st_aload_n (i := 0) rfl (t := 0) rfl (by decide) dX1_saidAt_0 ?_
  refine so_getI (v := (mem 50 7)) 50 7 fr_X1_9_1 rfl sh_50 rfl dX1_saidAt_1 (fun r1 => ?_)
  refine st_iload_n (i := 1) rfl rfl dX1_saidAt_4 ?_
  refine st_ishr dX1_saidAt_5 ?_
  refine st_iconst dX1_saidAt_6 ?_
  refine st_iand dX1_saidAt_7 ?_
  refine sr_if_ne 13 (and32_rng (shr32 (mem 50 7) x1) 1) (by decide) dX1_saidAt_8 (fun h1 => ?_) (fun h1 => ?_)
  · have h1 : ¬ (and32 (shr32 (mem 50 7) x1) 1) = 0 := by omega
    refine st_aload_n (i := 0) rfl (t := 0) rfl (by decide) dX1_saidAt_13 ?_
    refine st_dup (by decide) dX1_saidAt_14 ?_
    refine so_getI (v := (mem 50 7)) 50 7 fr_X1_9_1 rfl sh_50 rfl dX1_saidAt_15 (fun r2 => ?_)
    refine st_iconst dX1_saidAt_18 ?_
    refine st_iload_n (i := 1) rfl rfl dX1_saidAt_19 ?_
    refine st_ishl dX1_saidAt_20 ?_
    refine st_ixor dX1_saidAt_21 ?_
    refine so_putI 50 7 fr_X1_9_1 pf_1_7 fo_50_7 rfl sh_50 (xor32_rng (mem 50 7) (shl32 1 x1)) dX1_saidAt_22 ?_
    refine st_aload_n (i := 0) rfl (t := 0) rfl (by decide) dX1_saidAt_25 ?_
    refine so_getA 50 0 fr_X1_19_1 rfl sh_50 fx_50_0 dX1_saidAt_26 ?_
    refine st_iload_n (i := 1) rfl rfl dX1_saidAt_29 ?_
    refine st_callV (kc2 := 0) (ks2 := 0) (av := [(0, x1)]) 23 8 mr_X1_23 ok_X8_has (c_X8_has (mset mem 50 7 (xor32 (mem 50 7) (shl32 1 x1))) x1 ((s1 h1))) rfl sh_23 ⟨_, rfl, rfl, by decide⟩ rfl rfl hd2 (Nat.le_refl 0) (Nat.le_refl 0) (Nat.le_of_ble_eq_true rfl) dX1_saidAt_30 (mQ.elim fun v1 m1 hp => ?_)
    obtain ⟨hpv, hpm⟩ := hp
    subst hpv
    have hpm := hpm.symm
    subst hpm
    refine so_ifeqB 48 (by decide) dX1_saidAt_33 (fun h2 => ?_) (fun h2 => ?_)
    · have h2 : ¬ (0 ≤ x1 ∧ x1 < ((mset mem 50 7 (xor32 (mem 50 7) (shl32 1 x1))) 23 1)) := h2
      refine st_iconst dX1_saidAt_48 ?_
      exact st_ireturn rfl dX1_saidAt_49 (mQ.ret (q1 h1 h2))
    · have h2 : (0 ≤ x1 ∧ x1 < ((mset mem 50 7 (xor32 (mem 50 7) (shl32 1 x1))) 23 1)) := h2
      refine st_aload_n (i := 0) rfl (t := 0) rfl (by decide) dX1_saidAt_36 ?_
      refine so_getA 50 1 fr_X1_29_1 rfl sh_50 fx_50_1 dX1_saidAt_37 ?_
      refine so_getA 35 3 fr_X1_33_4 rfl sh_35 fx_35_3 dX1_saidAt_40 ?_
      refine st_iload_n (i := 1) rfl rfl dX1_saidAt_43 ?_
      refine so_iald (v := (mem 38 x1)) 38 rfl sh_38 (by decide) (s2 h1 h2) rfl dX1_saidAt_44 (fun r3 => ?_)
      refine st_goto 49 (by decide) dX1_saidAt_45 ?_
      exact st_ireturn rfl dX1_saidAt_49 (mQ.ret (q2 h1 h2))
  · have h1 : (and32 (shr32 (mem 50 7) x1) 1) = 0 := by omega
    refine st_iload_n (i := 1) rfl rfl dX1_saidAt_11 ?_
    exact st_ireturn rfl dX1_saidAt_12 (mQ.ret (q3 h1))
theorem cn_X10_walk_50 {d : Nat} {P : mmM → Prop} {mem : mmM} (h : mmT bX10_walk d 0 0 (mQv P) 0 [(2, 50), (9, 0), (9, 0), (9, 0)] [] mS mem) : conv bX10_walk d [(2, 50)] mem P := mmC_of [(2, 50), (9, 0), (9, 0), (9, 0)] ok_X10_walk.2.2.2.2 rfl (Nat.le_of_ble_eq_true rfl) h
theorem bk_X10_walk_50_0 {d : Nat} {P : mmM → Prop} {mem : mmM}
  (k1 : mmT bX10_walk d 0 0 (mQv P) 24 [(2, 50), (0, 0), (0, 0), (9, 0)] [] mS (mset (mset (mset (mset mem 50 3 0) 50 4 0) 50 5 2) 50 6 (-1)))
  : mmT bX10_walk d 0 0 (mQv P) 0 [(2, 50), (9, 0), (9, 0), (9, 0)] [] mS mem := by
  refine st_aload_n (i := 0) rfl (t := 0) rfl (by decide) dX10_walk_0 ?_
  refine st_iconst dX10_walk_1 ?_
  refine so_putI 50 3 fr_X10_23_1 pf_1_3 fo_50_3 rfl sh_50 ⟨by decide, by decide⟩ dX10_walk_2 ?_
  refine st_aload_n (i := 0) rfl (t := 0) rfl (by decide) dX10_walk_5 ?_
  refine st_iconst dX10_walk_6 ?_
  refine so_putI 50 4 fr_X10_27_1 pf_1_4 fo_50_4 rfl sh_50 ⟨by decide, by decide⟩ dX10_walk_7 ?_
  refine st_aload_n (i := 0) rfl (t := 0) rfl (by decide) dX10_walk_10 ?_
  refine st_iconst dX10_walk_11 ?_
  refine so_putI 50 5 fr_X10_30_1 pf_1_5 fo_50_5 rfl sh_50 ⟨by decide, by decide⟩ dX10_walk_12 ?_
  refine st_aload_n (i := 0) rfl (t := 0) rfl (by decide) dX10_walk_15 ?_
  refine st_iconst dX10_walk_16 ?_
  refine so_putI 50 6 fr_X10_33_1 pf_1_6 fo_50_6 rfl sh_50 ⟨by decide, by decide⟩ dX10_walk_17 ?_
  refine st_iconst dX10_walk_20 ?_
  refine st_istore_n (i := 1) rfl (by decide) (lc' := [(2, 50), (0, 0), (9, 0), (9, 0)]) rfl dX10_walk_21 ?_
  refine st_iconst dX10_walk_22 ?_
  refine st_istore_n (i := 2) rfl (by decide) (lc' := [(2, 50), (0, 0), (0, 0), (9, 0)]) rfl dX10_walk_23 ?_
  exact st_locals [(2, 50), (0, 0), (0, 0), (9, 0)] ⟨Or.inr rfl, Or.inr rfl, Or.inr rfl, Or.inl rfl, trivial⟩ k1
theorem bk_X10_walk_50_24 {d : Nat} {d1 : Nat} {P1 : Int → mmM → Prop} {P : mmM → Prop} {mem : mmM} {x1 x2 : Int}
  (c1 : x2 < 200 → (0 ≤ x1 ∧ x1 < (mem 23 1)) → con 0 bX1_saidAt d1 [(2, 50), (0, x1)] mem P1)
  (k1 : x2 < 200 → (0 ≤ x1 ∧ x1 < (mem 23 1)) → ∀ (v4 : Int), ∀ (m4 : mmM), P1 v4 m4 → (0 ≤ v4 ∧ v4 < (m4 23 1)) → mmT bX10_walk d 0 0 (mQv P) 24 [(2, 50), (0, (v4 + 1)), (0, (x2 + 1)), (9, 0)] [] mS (mset (mset (mset m4 51 x2 v4) 50 3 ((m4 50 3) + 1)) 50 4 ((m4 50 4) + (m4 26 v4))))
  (q1 : 200 ≤ x2 → (0 ≤ x1 ∧ x1 < (mem 23 1)) → P mem)
  (q2 : 200 ≤ x2 → ¬ (0 ≤ x1 ∧ x1 < (mem 23 1)) → P (mset mem 50 5 0))
  (q3 : x2 < 200 → ¬ (0 ≤ x1 ∧ x1 < (mem 23 1)) → (0 ≤ x1 ∧ x1 < (mem 23 1)) → P mem)
  (q4 : x2 < 200 → ¬ (0 ≤ x1 ∧ x1 < (mem 23 1)) → ¬ (0 ≤ x1 ∧ x1 < (mem 23 1)) → P (mset mem 50 5 0))
  (q5 : x2 < 200 → (0 ≤ x1 ∧ x1 < (mem 23 1)) → ∀ (v4 : Int), ∀ (m4 : mmM), P1 v4 m4 → ¬ (0 ≤ v4 ∧ v4 < (m4 23 1)) → P (mset (mset m4 50 5 1) 50 6 x1))
  (hd_d1 : d1 + 1 ≤ d := by omega)
  (hd2 : 2 ≤ d := by omega)
  (s1 : R32 x2 := by intros; first | omega | assumption | solve_by_elim)
  (s2 : 200 ≤ x2 → R32 x1 := by intros; first | omega | assumption | solve_by_elim)
  (s3 : x2 < 200 → R32 x1 := by intros; first | omega | assumption | solve_by_elim)
  (s4 : x2 < 200 → (0 ≤ x1 ∧ x1 < (mem 23 1)) → ∀ (v4 : Int), ∀ (m4 : mmM), P1 v4 m4 → R32 v4 := by intros; first | omega | assumption | solve_by_elim)
  (s5 : x2 < 200 → (0 ≤ x1 ∧ x1 < (mem 23 1)) → ∀ (v4 : Int), ∀ (m4 : mmM), P1 v4 m4 → (0 ≤ v4 ∧ v4 < (m4 23 1)) → 0 ≤ x2 ∧ x2 < 200 := by intros; first | omega | assumption | solve_by_elim)
  (s6 : x2 < 200 → (0 ≤ x1 ∧ x1 < (mem 23 1)) → ∀ (v4 : Int), ∀ (m4 : mmM), P1 v4 m4 → (0 ≤ v4 ∧ v4 < (m4 23 1)) → R32 ((m4 50 3) + 1) := by intros; first | omega | assumption | solve_by_elim)
  (s7 : x2 < 200 → (0 ≤ x1 ∧ x1 < (mem 23 1)) → ∀ (v4 : Int), ∀ (m4 : mmM), P1 v4 m4 → (0 ≤ v4 ∧ v4 < (m4 23 1)) → 0 ≤ v4 ∧ v4 < 24 := by intros; first | omega | assumption | solve_by_elim)
  (s8 : x2 < 200 → (0 ≤ x1 ∧ x1 < (mem 23 1)) → ∀ (v4 : Int), ∀ (m4 : mmM), P1 v4 m4 → (0 ≤ v4 ∧ v4 < (m4 23 1)) → R32 ((m4 50 4) + (m4 26 v4)) := by intros; first | omega | assumption | solve_by_elim)
  : mmT bX10_walk d 0 0 (mQv P) 24 [(2, 50), (0, x1), (0, x2), (9, 0)] [] mS mem := by
  refine st_iload_n (i := 2) rfl rfl dX10_walk_24 ?_
  refine st_sipush rfl dX10_walk_25 ?_
  refine sr_icmp_ge 115 s1 ⟨by decide, by decide⟩ (by decide) dX10_walk_28 (fun h1 => ?_) (fun h1 => ?_)
  · have h1 : 200 ≤ x2 := by omega
    refine st_aload_n (i := 0) rfl (t := 0) rfl (by decide) dX10_walk_115 ?_
    refine so_getA 50 0 fr_X10_15_1 rfl sh_50 fx_50_0 dX10_walk_116 ?_
    refine st_iload_n (i := 1) rfl rfl dX10_walk_119 ?_
    refine st_callV (kc2 := 0) (ks2 := 0) (av := [(0, x1)]) 23 8 mr_X10_36 ok_X8_has (c_X8_has mem x1 ((s2 h1))) rfl sh_23 ⟨_, rfl, rfl, by decide⟩ rfl rfl hd2 (Nat.le_refl 0) (Nat.le_refl 0) (Nat.le_of_ble_eq_true rfl) dX10_walk_120 (mQ.elim fun v1 m1 hp => ?_)
    obtain ⟨hpv, hpm⟩ := hp
    subst hpv
    have hpm := hpm.symm
    subst hpm
    refine so_ifneB 131 (by decide) dX10_walk_123 (fun h2 => ?_) (fun h2 => ?_)
    · have h2 : (0 ≤ x1 ∧ x1 < (mem 23 1)) := h2
      exact st_return rfl dX10_walk_131 (mQv.ret (q1 h1 h2))
    · have h2 : ¬ (0 ≤ x1 ∧ x1 < (mem 23 1)) := h2
      refine st_aload_n (i := 0) rfl (t := 0) rfl (by decide) dX10_walk_126 ?_
      refine st_iconst dX10_walk_127 ?_
      refine so_putI 50 5 fr_X10_30_1 pf_1_5 fo_50_5 rfl sh_50 ⟨by decide, by decide⟩ dX10_walk_128 ?_
      exact st_return rfl dX10_walk_131 (mQv.ret (q2 h1 h2))
  · have h1 : x2 < 200 := by omega
    refine st_aload_n (i := 0) rfl (t := 0) rfl (by decide) dX10_walk_31 ?_
    refine so_getA 50 0 fr_X10_15_1 rfl sh_50 fx_50_0 dX10_walk_32 ?_
    refine st_iload_n (i := 1) rfl rfl dX10_walk_35 ?_
    refine st_callV (kc2 := 0) (ks2 := 0) (av := [(0, x1)]) 23 8 mr_X10_36 ok_X8_has (c_X8_has mem x1 ((s3 h1))) rfl sh_23 ⟨_, rfl, rfl, by decide⟩ rfl rfl hd2 (Nat.le_refl 0) (Nat.le_refl 0) (Nat.le_of_ble_eq_true rfl) dX10_walk_36 (mQ.elim fun v2 m2 hp => ?_)
    obtain ⟨hpv, hpm⟩ := hp
    subst hpv
    have hpm := hpm.symm
    subst hpm
    refine so_ifeqB 115 (by decide) dX10_walk_39 (fun h3 => ?_) (fun h3 => ?_)
    · have h3 : ¬ (0 ≤ x1 ∧ x1 < (mem 23 1)) := h3
      refine st_aload_n (i := 0) rfl (t := 0) rfl (by decide) dX10_walk_115 ?_
      refine so_getA 50 0 fr_X10_15_1 rfl sh_50 fx_50_0 dX10_walk_116 ?_
      refine st_iload_n (i := 1) rfl rfl dX10_walk_119 ?_
      refine st_callV (kc2 := 0) (ks2 := 0) (av := [(0, x1)]) 23 8 mr_X10_36 ok_X8_has (c_X8_has mem x1 ((s3 h1))) rfl sh_23 ⟨_, rfl, rfl, by decide⟩ rfl rfl hd2 (Nat.le_refl 0) (Nat.le_refl 0) (Nat.le_of_ble_eq_true rfl) dX10_walk_120 (mQ.elim fun v3 m3 hp => ?_)
      obtain ⟨hpv, hpm⟩ := hp
      subst hpv
      have hpm := hpm.symm
      subst hpm
      refine so_ifneB 131 (by decide) dX10_walk_123 (fun h4 => ?_) (fun h4 => ?_)
      · have h4 : (0 ≤ x1 ∧ x1 < (mem 23 1)) := h4
        exact st_return rfl dX10_walk_131 (mQv.ret (q3 h1 h3 h4))
      · have h4 : ¬ (0 ≤ x1 ∧ x1 < (mem 23 1)) := h4
        refine st_aload_n (i := 0) rfl (t := 0) rfl (by decide) dX10_walk_126 ?_
        refine st_iconst dX10_walk_127 ?_
        refine so_putI 50 5 fr_X10_30_1 pf_1_5 fo_50_5 rfl sh_50 ⟨by decide, by decide⟩ dX10_walk_128 ?_
        exact st_return rfl dX10_walk_131 (mQv.ret (q4 h1 h3 h4))
    · have h3 : (0 ≤ x1 ∧ x1 < (mem 23 1)) := h3
      refine st_aload_n (i := 0) rfl (t := 0) rfl (by decide) dX10_walk_42 ?_
      refine st_iload_n (i := 1) rfl rfl dX10_walk_43 ?_
      refine st_callU _ _ _ (kc2 := 0) (ks2 := 0) (av := [(0, x1)]) 50 1 mr_X10_42_1 ok_X1_saidAt (c1 h1 h3) rfl sh_50 ⟨_, rfl, rfl, by decide⟩ rfl rfl hd_d1 (Nat.le_refl 0) (Nat.le_refl 0) (Nat.le_of_ble_eq_true rfl) dX10_walk_44 (mQ.elim fun v4 m4 p1 => ?_)
      refine st_istore_n (i := 3) rfl (by decide) (lc' := [(2, 50), (0, x1), (0, x2), (0, v4)]) rfl dX10_walk_47 ?_
      refine st_aload_n (i := 0) rfl (t := 0) rfl (by decide) dX10_walk_48 ?_
      refine so_getA 50 0 fr_X10_15_1 rfl sh_50 fx_50_0 dX10_walk_49 ?_
      refine st_iload_n (i := 3) rfl rfl dX10_walk_52 ?_
      refine st_callV (kc2 := 0) (ks2 := 0) (av := [(0, v4)]) 23 8 mr_X10_36 ok_X8_has (c_X8_has m4 v4 ((s4 h1 h3 v4 m4 p1))) rfl sh_23 ⟨_, rfl, rfl, by decide⟩ rfl rfl hd2 (Nat.le_refl 0) (Nat.le_refl 0) (Nat.le_of_ble_eq_true rfl) dX10_walk_53 (mQ.elim fun v5 m5 hp => ?_)
      obtain ⟨hpv, hpm⟩ := hp
      subst hpv
      have hpm := hpm.symm
      subst hpm
      refine so_ifneB 70 (by decide) dX10_walk_56 (fun h5 => ?_) (fun h5 => ?_)
      · have h5 : (0 ≤ v4 ∧ v4 < (m4 23 1)) := h5
        refine st_aload_n (i := 0) rfl (t := 0) rfl (by decide) dX10_walk_70 ?_
        refine so_getA 50 2 fr_X10_9_1 rfl sh_50 fx_50_2 dX10_walk_71 ?_
        refine st_iload_n (i := 2) rfl rfl dX10_walk_74 ?_
        refine st_iload_n (i := 3) rfl rfl dX10_walk_75 ?_
        refine so_iast 51 fr_51 rfl sh_51 (by decide) (s5 h1 h3 v4 m4 p1 h5) (s4 h1 h3 v4 m4 p1) dX10_walk_76 ?_
        refine st_aload_n (i := 0) rfl (t := 0) rfl (by decide) dX10_walk_77 ?_
        refine st_dup (by decide) dX10_walk_78 ?_
        refine so_getI (v := (m4 50 3)) 50 3 fr_X10_23_1 rfl sh_50 rfl dX10_walk_79 (fun r1 => ?_)
        refine st_iconst dX10_walk_82 ?_
        refine st_iadd dX10_walk_83 ?_
        refine so_putI 50 3 fr_X10_23_1 pf_1_3 fo_50_3 rfl sh_50 (s6 h1 h3 v4 m4 p1 h5) dX10_walk_84 ?_
        refine st_aload_n (i := 0) rfl (t := 0) rfl (by decide) dX10_walk_87 ?_
        refine st_dup (by decide) dX10_walk_88 ?_
        refine so_getI (v := (m4 50 4)) 50 4 fr_X10_27_1 rfl sh_50 rfl dX10_walk_89 (fun r2 => ?_)
        refine st_aload_n (i := 0) rfl (t := 0) rfl (by decide) dX10_walk_92 ?_
        refine so_getA 50 0 fr_X10_15_1 rfl sh_50 fx_50_0 dX10_walk_93 ?_
        refine so_getA 23 4 fr_X10_46_8 rfl sh_23 fx_23_4 dX10_walk_96 ?_
        refine st_iload_n (i := 3) rfl rfl dX10_walk_99 ?_
        refine so_iald (v := (m4 26 v4)) 26 rfl sh_26 (by decide) (s7 h1 h3 v4 m4 p1 h5) rfl dX10_walk_100 (fun r3 => ?_)
        refine st_iadd dX10_walk_101 ?_
        refine so_putI 50 4 fr_X10_27_1 pf_1_4 fo_50_4 rfl sh_50 (s8 h1 h3 v4 m4 p1 h5) dX10_walk_102 ?_
        refine st_iload_n (i := 3) rfl rfl dX10_walk_105 ?_
        refine st_iconst dX10_walk_106 ?_
        refine st_iadd dX10_walk_107 ?_
        refine st_istore_n (i := 1) rfl (by decide) (lc' := [(2, 50), (0, (v4 + 1)), (0, x2), (0, v4)]) rfl dX10_walk_108 ?_
        refine st_iinc (y := (x2 + 1)) (by decide) (i := 2) rfl rfl (lc' := [(2, 50), (0, (v4 + 1)), (0, (x2 + 1)), (0, v4)]) rfl dX10_walk_109 ?_
        refine st_goto 24 (by decide) dX10_walk_112 ?_
        exact st_locals [(2, 50), (0, (v4 + 1)), (0, (x2 + 1)), (9, 0)] ⟨Or.inr rfl, Or.inr rfl, Or.inr rfl, Or.inl rfl, trivial⟩ (k1 h1 h3 v4 m4 p1 h5)
      · have h5 : ¬ (0 ≤ v4 ∧ v4 < (m4 23 1)) := h5
        refine st_aload_n (i := 0) rfl (t := 0) rfl (by decide) dX10_walk_59 ?_
        refine st_iconst dX10_walk_60 ?_
        refine so_putI 50 5 fr_X10_30_1 pf_1_5 fo_50_5 rfl sh_50 ⟨by decide, by decide⟩ dX10_walk_61 ?_
        refine st_aload_n (i := 0) rfl (t := 0) rfl (by decide) dX10_walk_64 ?_
        refine st_iload_n (i := 1) rfl rfl dX10_walk_65 ?_
        refine so_putI 50 6 fr_X10_33_1 pf_1_6 fo_50_6 rfl sh_50 (s3 h1) dX10_walk_66 ?_
        exact st_return rfl dX10_walk_69 (mQv.ret (q5 h1 h3 v4 m4 p1 h5))
theorem cn_X1_play {d : Nat} {P : mmM → Prop} {mem : mmM} {x1 : Int} (h : mmT bX1_play d 0 0 (mQv P) 0 [(2, 50), (0, x1)] [] mS mem) : conv bX1_play d [(2, 50), (0, x1)] mem P := mmC_of [(2, 50), (0, x1)] ok_X1_play.2.2.2.2 rfl (Nat.le_of_ble_eq_true rfl) h
theorem bk_X1_play_0 {d : Nat} {d1 : Nat} {P1 : mmM → Prop} {P : mmM → Prop} {mem : mmM} {x1 : Int}
  (c1 : conv bX10_walk d1 [(2, 50)] (mset mem 50 7 x1) P1)
  (q1 : ∀ (m1 : mmM), P1 m1 → P m1)
  (hd_d1 : d1 + 1 ≤ d := by omega)
  (s1 : R32 x1 := by intros; first | omega | assumption | solve_by_elim)
  : mmT bX1_play d 0 0 (mQv P) 0 [(2, 50), (0, x1)] [] mS mem := by
  refine st_aload_n (i := 0) rfl (t := 0) rfl (by decide) dX1_play_0 ?_
  refine st_iload_n (i := 1) rfl rfl dX1_play_1 ?_
  refine so_putI 50 7 fr_X1_9_1 pf_1_7 fo_50_7 rfl sh_50 s1 dX1_play_2 ?_
  refine st_aload_n (i := 0) rfl (t := 0) rfl (by decide) dX1_play_5 ?_
  refine st_callU _ _ _ (kc2 := 0) (ks2 := 0) (av := []) 50 1 mr_X1_15_1 ok_X10_walk c1 rfl sh_50 ⟨_, rfl, rfl, by decide⟩ rfl rfl hd_d1 (Nat.le_refl 0) (Nat.le_refl 0) (Nat.le_of_ble_eq_true rfl) dX1_play_6 (mQv.elim fun m1 p1 => ?_)
  exact st_return rfl dX1_play_9 (mQv.ret (q1 m1 p1))
theorem c_X1_saidAt (mem : mmM) (x1 : Int) (hn : 0 ≤ mem 23 1 ∧ mem 23 1 ≤ 24) (h1 : 0 ≤ x1 ∧ x1 < mem 23 1) (hp : 0 ≤ mem 50 7 ∧ mem 50 7 < 2147483648) : con 0 bX1_saidAt 2 [(2, 50), (0, x1)] mem (fun v m => v = (if (mem 50 7 / p2 x1) % 2 = 1 then mem 38 x1 else x1) ∧ m = (if (mem 50 7 / p2 x1) % 2 = 1 then mset mem 50 7 (mem 50 7 - p2 x1) else mem)) := by
  have e := bit_eq hp.1 hp.2 h1.1 (by omega : x1 < 32)
  have e23 : ∀ v, mset mem 50 7 v 23 = mem 23 := fun v => mset_ne (by decide)
  refine cn_X1_saidAt (bk_X1_saidAt_0 (fun g g2 => ?_) (fun g g2 => ?_) (fun g => ?_))
  · rw [e23] at g2
    exact absurd h1 g2
  · have q : (mem 50 7 / p2 x1) % 2 = 1 := by omega
    rw [if_pos q, if_pos q, xor32_bit hp.1 hp.2 h1.1 (by omega) q]
    exact ⟨rfl, rfl⟩
  · rw [if_neg (by omega), if_neg (by omega)]
    exact ⟨rfl, rfl⟩
/-- the class's evening, after k said -/
def evXI (mem : mmM) (L : Int) (k : Nat) (m : mmM) : Prop := (∀ a, a ≠ 50 → a ≠ 51 → m a = mem a) ∧ (∀ j, j < 3 ∨ 7 < j → m 50 j = mem 50 j) ∧ m 50 3 = k ∧ m 50 4 = evSec (mem 26) (mem 38) L k ∧ ∀ j : Nat, j < k → m 51 j = evV (mem 38) L j
theorem evXI_set {mem : mmM} {L : Int} {k : Nat} {m : mmM} (h : evXI mem L k m) (j v : Int) (hj : 5 ≤ j ∧ j ≤ 7) : evXI mem L k (mset m 50 j v) :=
  ⟨fun a a1 a2 => by rw [mset_ne a1]; exact h.1 a a1 a2, fun i hi => by rw [mset_at, if_neg (by omega)]; exact h.2.1 i hi, by rw [mset_at, if_neg (by omega)]; exact h.2.2.1, by rw [mset_at, if_neg (by omega)]; exact h.2.2.2.1, fun i hi => by rw [mset_ne (by decide)]; exact h.2.2.2.2 i hi⟩
def playX (mem : mmM) : Prop := (0 ≤ mem 23 1 ∧ mem 23 1 ≤ 24) ∧ (∀ i, 0 ≤ i → i < mem 23 1 → (0 ≤ mem 24 i ∧ mem 24 i < 8) ∧ (1 ≤ mem 26 i ∧ mem 26 i ≤ 99) ∧ (-1 ≤ mem 38 i ∧ mem 38 i < mem 23 1))
def evXP (mem : mmM) (L : Int) (m : mmM) : Prop := ∃ k : Nat, evEnd (mem 23 1) (mem 38) L k ∧ evXI mem L k m ∧ m 50 5 = evOut (mem 23 1) (mem 38) L k ∧ m 50 6 = evStop (mem 23 1) (mem 38) L k
theorem c_X10_walk_50 (mem : mmM) (L : Int) (hp : playX mem) (hL : 0 ≤ L ∧ L < 16777216) : conv bX10_walk 3 [(2, 50)] (mset mem 50 7 L) (fun m => evXP mem L m) := by
  have hn := hp.1
  have ht : ∀ i, 0 ≤ i → i < mem 23 1 → -1 ≤ mem 38 i ∧ mem 38 i < mem 23 1 := fun i a b => (hp.2 i a b).2.2
  have hl : ∀ i, 0 ≤ i → i < mem 23 1 → 0 ≤ mem 26 i ∧ mem 26 i ≤ 99 := fun i a b => by have := (hp.2 i a b).2.1; omega
  refine cn_X10_walk_50 (bk_X10_walk_50_0 ?_)
  have key : ∀ (t k : Nat) (m : mmM), t = 200 - k → k ≤ 200 → (∀ i, i < k → evAlive (mem 23 1) (mem 38) L i) → evXI mem L k m → m 50 7 = (evSt (mem 38) L k).1 → m 50 5 = 2 → m 50 6 = -1 → mmT bX10_walk 3 0 0 (mQv (fun m => evXP mem L m)) 24 [(2, 50), (0, (evSt (mem 38) L k).2), (0, (k : Int)), (9, 0)] [] mS m := by
    intro t
    induction t using Nat.strongRecOn with
    | _ t ih =>
      intro k m htk hk hal hi i7 h5 h6
      have e23 : m 23 = mem 23 := hi.1 23 (by decide) (by decide)
      have e26 : m 26 = mem 26 := hi.1 26 (by decide) (by decide)
      have e38 : m 38 = mem 38 := hi.1 38 (by decide) (by decide)
      have b := evSt_bnd hn.1 ht hL.1 k hal
      have sb := evSec_bnd hl hn.1 ht hL.1 k hal
      have i3 := hi.2.2.1
      have i4 := hi.2.2.2.1
      have cb : (0 ≤ (evSt (mem 38) L k).2 ∧ (evSt (mem 38) L k).2 < m 23 1) → con 0 bX1_saidAt 2 [(2, 50), (0, (evSt (mem 38) L k).2)] m (fun v m' => v = (if ((evSt (mem 38) L k).1 / p2 (evSt (mem 38) L k).2) % 2 = 1 then mem 38 (evSt (mem 38) L k).2 else (evSt (mem 38) L k).2) ∧ m' = (if ((evSt (mem 38) L k).1 / p2 (evSt (mem 38) L k).2) % 2 = 1 then mset m 50 7 ((evSt (mem 38) L k).1 - p2 (evSt (mem 38) L k).2) else m)) := by
        intro g
        have cb := c_X1_saidAt m (evSt (mem 38) L k).2 (by rw [e23]; exact hn) g (by rw [i7]; omega)
        rw [i7, e38] at cb
        exact cb
      have vb : (evSt (mem 38) L k).2 < mem 23 1 → -1 ≤ evV (mem 38) L k ∧ evV (mem 38) L k < mem 23 1 := fun gc => evV_bnd hn.1 ht hL.1 hal gc
      have fr : ∀ v m', (v = (if ((evSt (mem 38) L k).1 / p2 (evSt (mem 38) L k).2) % 2 = 1 then mem 38 (evSt (mem 38) L k).2 else (evSt (mem 38) L k).2) ∧ m' = (if ((evSt (mem 38) L k).1 / p2 (evSt (mem 38) L k).2) % 2 = 1 then mset m 50 7 ((evSt (mem 38) L k).1 - p2 (evSt (mem 38) L k).2) else m)) → v = evV (mem 38) L k ∧ (∀ a, a ≠ 50 → m' a = m a) ∧ (∀ j, j ≠ 7 → m' 50 j = m 50 j) ∧ m' 50 7 = (evSt (mem 38) L (k + 1)).1 ∧ evXI mem L k m' := by
        rintro v m' ⟨q1, q2⟩
        refine ⟨q1, ?_, ?_, ?_, ?_⟩
        · intro a ha
          rw [q2]
          split
          · exact mset_ne ha
          · rfl
        · intro j hj
          rw [q2]
          split
          · rw [mset_at, if_neg hj]
          · rfl
        · rw [q2, evSt_fst]
          split
          · exact mset_same _ _ _ _
          · exact i7
        · rw [q2]
          split
          · exact evXI_set hi 7 _ (by omega)
          · exact hi
      refine bk_X10_walk_50_24 (fun g g2 => cb g2) (fun g g2 v m' q g3 => ?_) (fun g g2 => ?_) (fun g g2 => ?_) (fun g g2 g3 => absurd g3 g2) (fun g g2 g3 => ?_) (fun g g2 v m' q g3 => ?_) (s4 := fun _ g2 v m' q => ?_) (s6 := fun _ _ v m' q g3 => ?_) (s7 := fun _ _ v m' q g3 => ?_) (s8 := fun _ _ v m' q g3 => ?_)
      · have f := fr v m' q
        have f23 : m' 23 = mem 23 := (f.2.1 23 (by decide)).trans e23
        have f26 : m' 26 = mem 26 := (f.2.1 26 (by decide)).trans e26
        rw [f23, f.1] at g3
        rw [e23] at g2
        have al : evAlive (mem 23 1) (mem 38) L k := ⟨by omega, g2.2, by omega⟩
        have e2 := evSt_snd (mem 38) L k
        rw [f.1, f.2.2.1 3 (by decide), f.2.2.1 4 (by decide), i3, i4, f26, ← e2, ← evSec_succ, show (k : Int) + 1 = ((k + 1 : Nat) : Int) by omega]
        refine ih (200 - (k + 1)) (by omega) (k + 1) _ rfl (by omega) (fun i z => ?_) ⟨?_, ?_, ?_, ?_, ?_⟩ ?_ ?_ ?_
        · rcases Nat.lt_or_ge i k with z2 | z2
          · exact hal i z2
          · rw [show i = k by omega]
            exact al
        · intro a a1 a2
          rw [mset_ne a1, mset_ne a1, mset_ne a2]
          exact (f.2.1 a a1).trans (hi.1 a a1 a2)
        · intro j hj
          rw [mset_at, if_neg (by omega), mset_at, if_neg (by omega), mset_ne (by decide), f.2.2.1 j (by omega)]
          exact hi.2.1 j hj
        · rw [mset_at, if_neg (by decide), mset_same]
        · rw [mset_same]
        · intro j hj
          rw [mset_ne (by decide), mset_ne (by decide), mset_at]
          by_cases z : (j : Int) = k
          · rw [if_pos z, show j = k by omega]
          · rw [if_neg z, f.2.1 51 (by decide)]
            exact hi.2.2.2.2 j (by omega)
        · rw [mset_at, if_neg (by decide), mset_at, if_neg (by decide), mset_ne (by decide)]
          exact f.2.2.2.1
        · rw [mset_at, if_neg (by decide), mset_at, if_neg (by decide), mset_ne (by decide), f.2.2.1 5 (by decide)]
          exact h5
        · rw [mset_at, if_neg (by decide), mset_at, if_neg (by decide), mset_ne (by decide), f.2.2.1 6 (by decide)]
          exact h6
      · rw [e23] at g2
        have o : evOut (mem 23 1) (mem 38) L k = 2 := by
          unfold evOut
          rw [if_neg (by omega), if_pos (by omega)]
        refine ⟨k, ⟨hal, fun z => by have := z.1; omega⟩, hi, by rw [h5, o], ?_⟩
        unfold evStop
        rw [h6, o]
        rfl
      · rw [e23] at g2
        have o : evOut (mem 23 1) (mem 38) L k = 0 := by
          unfold evOut
          rw [if_pos (by omega)]
        refine ⟨k, ⟨hal, fun z => by have := z.1; omega⟩, evXI_set hi 5 _ (by omega), by rw [mset_same, o], ?_⟩
        unfold evStop
        rw [mset_at, if_neg (by decide), h6, o]
        rfl
      · rw [e23] at g2
        have o : evOut (mem 23 1) (mem 38) L k = 0 := by
          unfold evOut
          rw [if_pos (by omega)]
        refine ⟨k, ⟨hal, fun z => by have := z.2.1; omega⟩, evXI_set hi 5 _ (by omega), by rw [mset_same, o], ?_⟩
        unfold evStop
        rw [mset_at, if_neg (by decide), h6, o]
        rfl
      · have f := fr v m' q
        have f23 : m' 23 = mem 23 := (f.2.1 23 (by decide)).trans e23
        rw [f23, f.1] at g3
        rw [e23] at g2
        have vb := vb g2.2
        have o : evOut (mem 23 1) (mem 38) L k = 1 := by
          unfold evOut
          rw [if_neg (by omega), if_neg (by omega)]
        refine ⟨k, ⟨hal, fun z => by have := z.2.2; omega⟩, evXI_set (evXI_set f.2.2.2.2 5 _ (by omega)) 6 _ (by omega), by rw [mset_at, if_neg (by decide), mset_same, o], ?_⟩
        unfold evStop
        rw [mset_same, if_pos o]
      · have f := fr v m' q
        rw [e23] at g2
        have vb := vb g2.2
        rw [f.1]
        omega
      · have f := fr v m' q
        rw [f.2.2.1 3 (by decide), i3]
        omega
      · have f := fr v m' q
        have f23 : m' 23 = mem 23 := (f.2.1 23 (by decide)).trans e23
        rw [f23] at g3
        omega
      · have f := fr v m' q
        have f23 : m' 23 = mem 23 := (f.2.1 23 (by decide)).trans e23
        have f26 : m' 26 = mem 26 := (f.2.1 26 (by decide)).trans e26
        rw [f23] at g3
        have l := hl v g3.1 g3.2
        rw [f.2.2.1 4 (by decide), i4, f26]
        omega
  refine key 200 0 _ rfl (by omega) (fun i z => by omega) ⟨?_, ?_, ?_, ?_, ?_⟩ ?_ ?_ ?_
  · intro a a1 a2
    rw [mset_ne a1, mset_ne a1, mset_ne a1, mset_ne a1, mset_ne a1]
  · intro j hj
    rw [mset_at, if_neg (by omega), mset_at, if_neg (by omega), mset_at, if_neg (by omega), mset_at, if_neg (by omega), mset_at, if_neg (by omega)]
  · rw [mset_at, if_neg (by omega), mset_at, if_neg (by omega), mset_at, if_neg (by omega), mset_same]
    rfl
  · rw [mset_at, if_neg (by omega), mset_at, if_neg (by omega), mset_same]
    rfl
  · intro j z
    omega
  · rw [mset_at, if_neg (by omega), mset_at, if_neg (by omega), mset_at, if_neg (by omega), mset_at, if_neg (by omega), mset_same]
    rfl
  · rw [mset_at, if_neg (by omega), mset_same]
  · rw [mset_same]
theorem c_X1_play (mem : mmM) (L : Int) (hp : playX mem) (hL : 0 ≤ L ∧ L < 16777216) : conv bX1_play 4 [(2, 50), (0, L)] mem (fun m => evXP mem L m) :=
  cn_X1_play (bk_X1_play_0 (c_X10_walk_50 mem L hp hL) (fun m q => q))
theorem cn_X11_evening {d : Nat} {P : Int → mmM → Prop} {mem : mmM} {x1 x2 : Int} (h : mmT bX11_evening d 0 0 (mQ 0 P) 0 [(2, 0), (0, x1), (0, x2)] [] mS mem) : con 0 bX11_evening d [(2, 0), (0, x1), (0, x2)] mem P := mmC_of [(2, 0), (0, x1), (0, x2)] ok_X11_evening.2.2.2.2 rfl (Nat.le_of_ble_eq_true rfl) h
theorem bk_X11_evening_0 {d : Nat} {d1 : Nat} {P1 : mmM → Prop} {P : Int → mmM → Prop} {mem : mmM} {x1 x2 : Int}
  (c1 : (0 < (mem 23 1) ∧ 0 ≤ x1 ∧ x1 < p2 (mem 23 1)) → (-1) ≤ x2 → conv bX1_play d1 [(2, 50), (0, x1)] mem P1)
  (q1 : ¬ (0 < (mem 23 1) ∧ 0 ≤ x1 ∧ x1 < p2 (mem 23 1)) → P (-1) mem)
  (q2 : (0 < (mem 23 1) ∧ 0 ≤ x1 ∧ x1 < p2 (mem 23 1)) → (-1) ≤ x2 → ∀ (m2 : mmM), P1 m2 → ¬ x2 = (-1) → (m2 50 3) ≤ x2 → P (-1) m2)
  (q3 : (0 < (mem 23 1) ∧ 0 ≤ x1 ∧ x1 < p2 (mem 23 1)) → (-1) ≤ x2 → ∀ (m2 : mmM), P1 m2 → ¬ x2 = (-1) → x2 < (m2 50 3) → 200 ≤ x2 → P (-1) m2)
  (q4 : (0 < (mem 23 1) ∧ 0 ≤ x1 ∧ x1 < p2 (mem 23 1)) → (-1) ≤ x2 → ∀ (m2 : mmM), P1 m2 → ¬ x2 = (-1) → x2 < (m2 50 3) → x2 < 200 → P (m2 51 x2) m2)
  (q5 : (0 < (mem 23 1) ∧ 0 ≤ x1 ∧ x1 < p2 (mem 23 1)) → (-1) ≤ x2 → ∀ (m2 : mmM), P1 m2 → x2 = (-1) → P (m2 50 3) m2)
  (q6 : (0 < (mem 23 1) ∧ 0 ≤ x1 ∧ x1 < p2 (mem 23 1)) → x2 < (-1) → P (-1) mem)
  (hd_d1 : d1 + 1 ≤ d := by omega)
  (hd2 : 2 ≤ d := by omega)
  (s1 : R32 x1 := by intros; first | omega | assumption | solve_by_elim)
  (s2 : 0 ≤ (mem 23 1) ∧ (mem 23 1) ≤ 24 := by intros; first | omega | assumption | solve_by_elim)
  (s3 : (0 < (mem 23 1) ∧ 0 ≤ x1 ∧ x1 < p2 (mem 23 1)) → R32 x2 := by intros; first | omega | assumption | solve_by_elim)
  (s4 : (0 < (mem 23 1) ∧ 0 ≤ x1 ∧ x1 < p2 (mem 23 1)) → (-1) ≤ x2 → ∀ (m2 : mmM), P1 m2 → ¬ x2 = (-1) → x2 < (m2 50 3) → x2 < 200 → 0 ≤ x2 ∧ x2 < 200 := by intros; first | omega | assumption | solve_by_elim)
  : mmT bX11_evening d 0 0 (mQ 0 P) 0 [(2, 0), (0, x1), (0, x2)] [] mS mem := by
  refine st_aload_n (i := 0) rfl (t := 0) rfl (by decide) dX11_evening_0 ?_
  refine so_getA 0 4 fr_X11_42_10 rfl sh_0 fx_0_4 dX11_evening_1 ?_
  refine st_iload_n (i := 1) rfl rfl dX11_evening_4 ?_
  refine st_callV (kc2 := 0) (ks2 := 0) (av := [(0, x1)]) 23 8 mr_X11_195 ok_X8_hasAll (c_X8_hasAll mem x1 (s1) (s2)) rfl sh_23 ⟨_, rfl, rfl, by decide⟩ rfl rfl hd2 (Nat.le_refl 0) (Nat.le_refl 0) (Nat.le_of_ble_eq_true rfl) dX11_evening_5 (mQ.elim fun v1 m1 hp => ?_)
  obtain ⟨hpv, hpm⟩ := hp
  subst hpv
  have hpm := hpm.symm
  subst hpm
  refine so_ifeqB 16 (by decide) dX11_evening_8 (fun h1 => ?_) (fun h1 => ?_)
  · have h1 : ¬ (0 < (mem 23 1) ∧ 0 ≤ x1 ∧ x1 < p2 (mem 23 1)) := h1
    refine st_iconst dX11_evening_16 ?_
    exact st_ireturn rfl dX11_evening_17 (mQ.ret (q1 h1))
  · have h1 : (0 < (mem 23 1) ∧ 0 ≤ x1 ∧ x1 < p2 (mem 23 1)) := h1
    refine st_iload_n (i := 2) rfl rfl dX11_evening_11 ?_
    refine st_iconst dX11_evening_12 ?_
    refine sr_icmp_ge 18 (s3 h1) ⟨by decide, by decide⟩ (by decide) dX11_evening_13 (fun h2 => ?_) (fun h2 => ?_)
    · have h2 : (-1) ≤ x2 := by omega
      refine st_aload_n (i := 0) rfl (t := 0) rfl (by decide) dX11_evening_18 ?_
      refine so_getA 0 7 fr_X11_67_10 rfl sh_0 fx_0_7 dX11_evening_19 ?_
      refine st_iload_n (i := 1) rfl rfl dX11_evening_22 ?_
      refine st_callV (kc2 := 0) (ks2 := 0) (av := [(0, x1)]) 50 1 mr_X11_198 ok_X1_play (c1 h1 h2) rfl sh_50 ⟨_, rfl, rfl, by decide⟩ rfl rfl hd_d1 (Nat.le_refl 0) (Nat.le_refl 0) (Nat.le_of_ble_eq_true rfl) dX11_evening_23 (mQv.elim fun m2 p1 => ?_)
      refine st_iload_n (i := 2) rfl rfl dX11_evening_26 ?_
      refine st_iconst dX11_evening_27 ?_
      refine sr_icmp_ne 39 (s3 h1) ⟨by decide, by decide⟩ (by decide) dX11_evening_28 (fun h3 => ?_) (fun h3 => ?_)
      · have h3 : ¬ x2 = (-1) := by omega
        refine st_iload_n (i := 2) rfl rfl dX11_evening_39 ?_
        refine st_aload_n (i := 0) rfl (t := 0) rfl (by decide) dX11_evening_40 ?_
        refine so_getA 0 7 fr_X11_67_10 rfl sh_0 fx_0_7 dX11_evening_41 ?_
        refine so_getI (v := (m2 50 3)) 50 3 fr_X11_200_1 rfl sh_50 rfl dX11_evening_44 (fun r1 => ?_)
        refine sr_icmp_ge 74 (s3 h1) r1 (by decide) dX11_evening_47 (fun h4 => ?_) (fun h4 => ?_)
        · have h4 : (m2 50 3) ≤ x2 := by omega
          refine st_iconst dX11_evening_74 ?_
          exact st_ireturn rfl dX11_evening_75 (mQ.ret (q2 h1 h2 m2 p1 h3 h4))
        · have h4 : x2 < (m2 50 3) := by omega
          refine st_iload_n (i := 2) rfl rfl dX11_evening_50 ?_
          refine st_aload_n (i := 0) rfl (t := 0) rfl (by decide) dX11_evening_51 ?_
          refine so_getA 0 7 fr_X11_67_10 rfl sh_0 fx_0_7 dX11_evening_52 ?_
          refine so_getA 50 2 fr_X11_203_1 rfl sh_50 fx_50_2 dX11_evening_55 ?_
          refine so_alen (v := 200) 51 rfl sh_51 (by decide) rfl dX11_evening_58 ?_
          refine sr_icmp_ge 74 (s3 h1) ⟨by decide, by decide⟩ (by decide) dX11_evening_59 (fun h5 => ?_) (fun h5 => ?_)
          · have h5 : 200 ≤ x2 := by omega
            refine st_iconst dX11_evening_74 ?_
            exact st_ireturn rfl dX11_evening_75 (mQ.ret (q3 h1 h2 m2 p1 h3 h4 h5))
          · have h5 : x2 < 200 := by omega
            refine st_aload_n (i := 0) rfl (t := 0) rfl (by decide) dX11_evening_62 ?_
            refine so_getA 0 7 fr_X11_67_10 rfl sh_0 fx_0_7 dX11_evening_63 ?_
            refine so_getA 50 2 fr_X11_203_1 rfl sh_50 fx_50_2 dX11_evening_66 ?_
            refine st_iload_n (i := 2) rfl rfl dX11_evening_69 ?_
            refine so_iald (v := (m2 51 x2)) 51 rfl sh_51 (by decide) (s4 h1 h2 m2 p1 h3 h4 h5) rfl dX11_evening_70 (fun r2 => ?_)
            refine st_goto 75 (by decide) dX11_evening_71 ?_
            exact st_ireturn rfl dX11_evening_75 (mQ.ret (q4 h1 h2 m2 p1 h3 h4 h5))
      · have h3 : x2 = (-1) := by omega
        refine st_aload_n (i := 0) rfl (t := 0) rfl (by decide) dX11_evening_31 ?_
        refine so_getA 0 7 fr_X11_67_10 rfl sh_0 fx_0_7 dX11_evening_32 ?_
        refine so_getI (v := (m2 50 3)) 50 3 fr_X11_200_1 rfl sh_50 rfl dX11_evening_35 (fun r3 => ?_)
        exact st_ireturn rfl dX11_evening_38 (mQ.ret (q5 h1 h2 m2 p1 h3))
    · have h2 : x2 < (-1) := by omega
      refine st_iconst dX11_evening_16 ?_
      exact st_ireturn rfl dX11_evening_17 (mQ.ret (q6 h1 h2))
theorem cn_X11_ends {d : Nat} {P : Int → mmM → Prop} {mem : mmM} {x1 x2 : Int} (h : mmT bX11_ends d 0 0 (mQ 0 P) 0 [(2, 0), (0, x1), (0, x2)] [] mS mem) : con 0 bX11_ends d [(2, 0), (0, x1), (0, x2)] mem P := mmC_of [(2, 0), (0, x1), (0, x2)] ok_X11_ends.2.2.2.2 rfl (Nat.le_of_ble_eq_true rfl) h
theorem bk_X11_ends_0 {d : Nat} {d1 : Nat} {P1 : mmM → Prop} {P : Int → mmM → Prop} {mem : mmM} {x1 x2 : Int}
  (c1 : (0 < (mem 23 1) ∧ 0 ≤ x1 ∧ x1 < p2 (mem 23 1)) → 0 ≤ x2 → x2 ≤ 2 → conv bX1_play d1 [(2, 50), (0, x1)] mem P1)
  (q1 : ¬ (0 < (mem 23 1) ∧ 0 ≤ x1 ∧ x1 < p2 (mem 23 1)) → P (-1000000) mem)
  (q2 : (0 < (mem 23 1) ∧ 0 ≤ x1 ∧ x1 < p2 (mem 23 1)) → x2 < 0 → P (-1000000) mem)
  (q3 : (0 < (mem 23 1) ∧ 0 ≤ x1 ∧ x1 < p2 (mem 23 1)) → 0 ≤ x2 → x2 ≤ 2 → ∀ (m2 : mmM), P1 m2 → x2 = 0 → P (m2 50 5) m2)
  (q4 : (0 < (mem 23 1) ∧ 0 ≤ x1 ∧ x1 < p2 (mem 23 1)) → 0 ≤ x2 → x2 ≤ 2 → ∀ (m2 : mmM), P1 m2 → ¬ x2 = 0 → x2 = 1 → P (m2 50 6) m2)
  (q5 : (0 < (mem 23 1) ∧ 0 ≤ x1 ∧ x1 < p2 (mem 23 1)) → 0 ≤ x2 → x2 ≤ 2 → ∀ (m2 : mmM), P1 m2 → ¬ x2 = 0 → ¬ x2 = 1 → P (m2 50 4) m2)
  (q6 : (0 < (mem 23 1) ∧ 0 ≤ x1 ∧ x1 < p2 (mem 23 1)) → 0 ≤ x2 → 2 < x2 → P (-1000000) mem)
  (hd_d1 : d1 + 1 ≤ d := by omega)
  (hd2 : 2 ≤ d := by omega)
  (s1 : R32 x1 := by intros; first | omega | assumption | solve_by_elim)
  (s2 : 0 ≤ (mem 23 1) ∧ (mem 23 1) ≤ 24 := by intros; first | omega | assumption | solve_by_elim)
  (s3 : (0 < (mem 23 1) ∧ 0 ≤ x1 ∧ x1 < p2 (mem 23 1)) → R32 x2 := by intros; first | omega | assumption | solve_by_elim)
  : mmT bX11_ends d 0 0 (mQ 0 P) 0 [(2, 0), (0, x1), (0, x2)] [] mS mem := by
  refine st_aload_n (i := 0) rfl (t := 0) rfl (by decide) dX11_ends_0 ?_
  refine so_getA 0 4 fr_X11_42_10 rfl sh_0 fx_0_4 dX11_ends_1 ?_
  refine st_iload_n (i := 1) rfl rfl dX11_ends_4 ?_
  refine st_callV (kc2 := 0) (ks2 := 0) (av := [(0, x1)]) 23 8 mr_X11_195 ok_X8_hasAll (c_X8_hasAll mem x1 (s1) (s2)) rfl sh_23 ⟨_, rfl, rfl, by decide⟩ rfl rfl hd2 (Nat.le_refl 0) (Nat.le_refl 0) (Nat.le_of_ble_eq_true rfl) dX11_ends_5 (mQ.elim fun v1 m1 hp => ?_)
  obtain ⟨hpv, hpm⟩ := hp
  subst hpv
  have hpm := hpm.symm
  subst hpm
  refine so_ifeqB 20 (by decide) dX11_ends_8 (fun h1 => ?_) (fun h1 => ?_)
  · have h1 : ¬ (0 < (mem 23 1) ∧ 0 ≤ x1 ∧ x1 < p2 (mem 23 1)) := h1
    refine st_ldc cw_X11_194 dX11_ends_20 ?_
    exact st_ireturn rfl dX11_ends_22 (mQ.ret (q1 h1))
  · have h1 : (0 < (mem 23 1) ∧ 0 ≤ x1 ∧ x1 < p2 (mem 23 1)) := h1
    refine st_iload_n (i := 2) rfl rfl dX11_ends_11 ?_
    refine sr_if_lt 20 (s3 h1) (by decide) dX11_ends_12 (fun h2 => ?_) (fun h2 => ?_)
    · have h2 : x2 < 0 := by omega
      refine st_ldc cw_X11_194 dX11_ends_20 ?_
      exact st_ireturn rfl dX11_ends_22 (mQ.ret (q2 h1 h2))
    · have h2 : 0 ≤ x2 := by omega
      refine st_iload_n (i := 2) rfl rfl dX11_ends_15 ?_
      refine st_iconst dX11_ends_16 ?_
      refine sr_icmp_le 23 (s3 h1) ⟨by decide, by decide⟩ (by decide) dX11_ends_17 (fun h3 => ?_) (fun h3 => ?_)
      · have h3 : x2 ≤ 2 := by omega
        refine st_aload_n (i := 0) rfl (t := 0) rfl (by decide) dX11_ends_23 ?_
        refine so_getA 0 7 fr_X11_67_10 rfl sh_0 fx_0_7 dX11_ends_24 ?_
        refine st_iload_n (i := 1) rfl rfl dX11_ends_27 ?_
        refine st_callV (kc2 := 0) (ks2 := 0) (av := [(0, x1)]) 50 1 mr_X11_198 ok_X1_play (c1 h1 h2 h3) rfl sh_50 ⟨_, rfl, rfl, by decide⟩ rfl rfl hd_d1 (Nat.le_refl 0) (Nat.le_refl 0) (Nat.le_of_ble_eq_true rfl) dX11_ends_28 (mQv.elim fun m2 p1 => ?_)
        refine st_iload_n (i := 2) rfl rfl dX11_ends_31 ?_
        by_cases h4 : x2 = 0
        · refine so_look (off := 28) 60 (s3 h1) (by decide) (by rw [h4]; rfl) (by decide) dX11_ends_32 ?_
          refine st_aload_n (i := 0) rfl (t := 0) rfl (by decide) dX11_ends_60 ?_
          refine so_getA 0 7 fr_X11_67_10 rfl sh_0 fx_0_7 dX11_ends_61 ?_
          refine so_getI (v := (m2 50 5)) 50 5 fr_X11_206_1 rfl sh_50 rfl dX11_ends_64 (fun r1 => ?_)
          exact st_ireturn rfl dX11_ends_67 (mQ.ret (q3 h1 h2 h3 m2 p1 h4))
        by_cases h5 : x2 = 1
        · refine so_look (off := 36) 68 (s3 h1) (by decide) (by rw [h5]; rfl) (by decide) dX11_ends_32 ?_
          refine st_aload_n (i := 0) rfl (t := 0) rfl (by decide) dX11_ends_68 ?_
          refine so_getA 0 7 fr_X11_67_10 rfl sh_0 fx_0_7 dX11_ends_69 ?_
          refine so_getI (v := (m2 50 6)) 50 6 fr_X11_209_1 rfl sh_50 rfl dX11_ends_72 (fun r2 => ?_)
          exact st_ireturn rfl dX11_ends_75 (mQ.ret (q4 h1 h2 h3 m2 p1 h4 h5))
        refine so_look (off := 44) 76 (s3 h1) (by decide) (by simp [Op.lookupswitch.offset, Ne.symm h4, Ne.symm h5]) (by decide) dX11_ends_32 ?_
        refine st_aload_n (i := 0) rfl (t := 0) rfl (by decide) dX11_ends_76 ?_
        refine so_getA 0 7 fr_X11_67_10 rfl sh_0 fx_0_7 dX11_ends_77 ?_
        refine so_getI (v := (m2 50 4)) 50 4 fr_X11_212_1 rfl sh_50 rfl dX11_ends_80 (fun r3 => ?_)
        exact st_ireturn rfl dX11_ends_83 (mQ.ret (q5 h1 h2 h3 m2 p1 h4 h5))
      · have h3 : 2 < x2 := by omega
        refine st_ldc cw_X11_194 dX11_ends_20 ?_
        exact st_ireturn rfl dX11_ends_22 (mQ.ret (q6 h1 h2 h3))
def okL (n L : Int) : Prop := 0 < n ∧ 0 ≤ L ∧ L < p2 n
theorem okL_bnd {n L : Int} (hn : n ≤ 24) (h : okL n L) : 0 ≤ L ∧ L < 16777216 := by
  have := p2_24 hn
  have := h.2
  omega
theorem c_X11_evening (mem : mmM) (x1 x2 : Int) (h1 : R32 x1) (h2 : R32 x2) (hp : playX mem) : con 0 bX11_evening 5 [(2, 0), (0, x1), (0, x2)] mem (fun v m => (¬ (okL (mem 23 1) x1 ∧ -1 ≤ x2) ∧ v = -1 ∧ m = mem) ∨ ((okL (mem 23 1) x1 ∧ -1 ≤ x2) ∧ evXP mem x1 m ∧ v = (if x2 = -1 then m 50 3 else if x2 < m 50 3 then m 51 x2 else -1))) := by
  have hn := hp.1
  refine cn_X11_evening (bk_X11_evening_0 (fun g g2 => c_X1_play mem x1 hp (okL_bnd hn.2 g)) (fun g => Or.inl ⟨fun z => g z.1, rfl, rfl⟩) (fun g g2 m q g3 g4 => Or.inr ⟨⟨g, g2⟩, q, ?_⟩) (fun g g2 m q g3 g4 g5 => ?_) (fun g g2 m q g3 g4 g5 => Or.inr ⟨⟨g, g2⟩, q, ?_⟩) (fun g g2 m q g3 => Or.inr ⟨⟨g, g2⟩, q, ?_⟩) (fun g g2 => Or.inl ⟨fun z => by have := z.2; omega, rfl, rfl⟩))
  · rw [if_neg g3, if_neg (by omega)]
  · obtain ⟨k, hk, hi, -⟩ := q
    have : ¬ 200 < k := fun z => by have := (hk.1 200 z).1; omega
    have := hi.2.2.1
    omega
  · rw [if_neg g3, if_pos g4]
  · rw [if_pos g3]
theorem c_X11_ends (mem : mmM) (x1 x2 : Int) (h1 : R32 x1) (h2 : R32 x2) (hp : playX mem) : con 0 bX11_ends 5 [(2, 0), (0, x1), (0, x2)] mem (fun v m => (¬ (okL (mem 23 1) x1 ∧ 0 ≤ x2 ∧ x2 ≤ 2) ∧ v = -1000000 ∧ m = mem) ∨ ((okL (mem 23 1) x1 ∧ 0 ≤ x2 ∧ x2 ≤ 2) ∧ evXP mem x1 m ∧ v = (if x2 = 0 then m 50 5 else if x2 = 1 then m 50 6 else m 50 4))) := by
  have hn := hp.1
  refine cn_X11_ends (bk_X11_ends_0 (fun g g2 g3 => c_X1_play mem x1 hp (okL_bnd hn.2 g)) (fun g => Or.inl ⟨fun z => g z.1, rfl, rfl⟩) (fun g g2 => Or.inl ⟨fun z => by have := z.2; omega, rfl, rfl⟩) (fun g g2 g3 m q g4 => Or.inr ⟨⟨g, g2, g3⟩, q, ?_⟩) (fun g g2 g3 m q g4 g5 => Or.inr ⟨⟨g, g2, g3⟩, q, ?_⟩) (fun g g2 g3 m q g4 g5 => Or.inr ⟨⟨g, g2, g3⟩, q, ?_⟩) (fun g g2 g3 => Or.inl ⟨fun z => by have := z.2; omega, rfl, rfl⟩))
  · rw [if_pos g4]
  · rw [if_neg g4, if_pos g5]
  · rw [if_neg g4, if_neg g5]
def sayM (m : mmM) (s : Int) : mmM := mset (mset (mset m 86 (m 65 36) s) 65 36 (m 65 36 + 1)) 65 39 (m 65 39 + m 81 s)
theorem leapM_congr {m mem : mmM} (h27 : m 65 27 = mem 65 27) (h79 : m 79 = mem 79) (h80 : m 80 = mem 80) (h83 : m 83 = mem 83) : leapM m = leapM mem := by
  funext s
  unfold leapM
  rw [h27, h79, h80, h83]
theorem playM_congr {m mem : mmM} (hp : playM mem) (h27 : m 65 27 = mem 65 27) (h79 : m 79 = mem 79) (h80 : m 80 = mem 80) (h81 : m 81 = mem 81) : playM m := by
  unfold playM
  rw [h27, h79, h80, h81]
  exact hp
/-- the model's evening, after k said -/
def evMI (mem : mmM) (L : Int) (k : Nat) (m : mmM) : Prop := (∀ a, a ≠ 65 → a ≠ 86 → m a = mem a) ∧ (∀ j, j < 36 ∨ 39 < j → m 65 j = mem 65 j) ∧ m 65 36 = k ∧ m 65 39 = evSec (mem 81) (leapM mem) L k ∧ ∀ j : Nat, j < k → m 86 j = evV (leapM mem) L j
def evMP (mem : mmM) (L : Int) (m : mmM) : Prop := ∃ k : Nat, evEnd (mem 65 27) (leapM mem) L k ∧ evMI mem L k m ∧ m 65 37 = evOut (mem 65 27) (leapM mem) L k ∧ m 65 38 = evStop (mem 65 27) (leapM mem) L k
theorem evMI_set {mem : mmM} {L : Int} {k : Nat} {m : mmM} (h : evMI mem L k m) (j v : Int) (hj : 37 ≤ j ∧ j ≤ 38) : evMI mem L k (mset m 65 j v) :=
  ⟨fun a a1 a2 => by rw [mset_ne a1]; exact h.1 a a1 a2, fun i hi => by rw [mset_at, if_neg (by omega)]; exact h.2.1 i hi, by rw [mset_at, if_neg (by omega)]; exact h.2.2.1, by rw [mset_at, if_neg (by omega)]; exact h.2.2.2.1, fun i hi => by rw [mset_ne (by decide)]; exact h.2.2.2.2 i hi⟩
theorem evMI_say {mem : mmM} {L : Int} {k : Nat} {m : mmM} (h : evMI mem L k m) : evMI mem L (k + 1) (sayM m (evV (leapM mem) L k)) := by
  have e81 : m 81 = mem 81 := h.1 81 (by decide) (by decide)
  unfold sayM
  rw [h.2.2.1, h.2.2.2.1, e81, ← evSec_succ]
  refine ⟨?_, ?_, ?_, ?_, ?_⟩
  · intro a a1 a2
    rw [mset_ne a1, mset_ne a1, mset_ne a2]
    exact h.1 a a1 a2
  · intro j hj
    rw [mset_at, if_neg (by omega), mset_at, if_neg (by omega), mset_ne (by decide)]
    exact h.2.1 j hj
  · rw [mset_at, if_neg (by decide), mset_same]
    omega
  · rw [mset_same]
  · intro j hj
    rw [mset_ne (by decide), mset_ne (by decide), mset_at]
    by_cases z : (j : Int) = k
    · rw [if_pos z, show j = k by omega]
    · rw [if_neg z]
      exact h.2.2.2.2 j (by omega)
theorem sayM_flag (m : mmM) (s : Int) : sayM m s 65 37 = m 65 37 ∧ sayM m s 65 38 = m 65 38 := by
  unfold sayM
  constructor
  · rw [mset_at, if_neg (by decide), mset_at, if_neg (by decide), mset_ne (by decide)]
  · rw [mset_at, if_neg (by decide), mset_at, if_neg (by decide), mset_ne (by decide)]