/-! rows of losses, forward: the sum over all places of how many stand there times how many come to the end from there stays the same -/
theorem sumTo_flat {f : Int → Int} {a : Nat} : ∀ (t : Nat), (∀ i : Int, (a : Int) ≤ i → i < ((a + t : Nat) : Int) → f i = 0) → sumTo f (a + t) = sumTo f a := by
  intro t
  induction t with
  | zero => intro _; rfl
  | succ t ih =>
    intro h
    show sumTo f (a + t) + f ((a + t : Nat) : Int) = sumTo f a
    rw [ih (fun i i0 i1 => h i i0 (by omega)), h _ (by omega) (by omega)]
    omega
theorem sumTo_mul_upd (T w : Int → Int) (k x : Int) (n : Nat) (h : 0 ≤ k ∧ k < n) : sumTo (fun q => updF T k x q * w q) n = sumTo (fun q => T q * w q) n - T k * w k + x * w k := by
  rw [← sumTo_upd (fun q => T q * w q) k (x * w k) n h]
  refine sumTo_congr (fun i _ _ => ?_)
  unfold updF
  by_cases e : i = k
  · rw [if_pos e, if_pos e, e]
  · rw [if_neg e, if_neg e]
def rwW (n : Int) (to : Int → Int) (k top : Int) (q : Int) : Int := if q / 7 < top ∧ q % 7 ≤ k then rwR n to (k - q % 7).toNat (q / 7) else 0
theorem rwW_nn {n : Int} {to : Int → Int} (hn : n ≤ 24) (k top : Int) {q : Int} (h : 0 ≤ q) : 0 ≤ rwW n to k top q := by
  unfold rwW
  split
  · exact (rwR_bnd hn _ (by omega)).1
  · exact Int.le_refl _
theorem rwW_at {n : Int} {to : Int → Int} {k top s j : Int} (hs : s < top) (hj : 0 ≤ j ∧ j ≤ k) (hk : k ≤ 6) : rwW n to k top (7 * s + j) = rwR n to (k - j).toNat s := by
  unfold rwW
  have e1 : (7 * s + j) / 7 = s := by omega
  have e2 : (7 * s + j) % 7 = j := by omega
  rw [e1, e2, if_pos ⟨hs, hj.2⟩]
/-- one more is added, and no bound is met where it counts -/
theorem rw_add {T w : Int → Int} {idx v Z rest : Int} (hT : ∀ q, 0 ≤ q → q < 175 → 0 ≤ T q) (hw : ∀ q, 0 ≤ q → 0 ≤ w q) (hi : 0 ≤ idx ∧ idx < 175) (hv : 0 ≤ v) (hZ : sumTo (fun q => T q * w q) 175 + rest = Z) (hr : v * w idx ≤ rest) (hb : Z ≤ 191102976) : sumTo (fun q => updF T idx (min 1000000000 (T idx + v)) q * w q) 175 = sumTo (fun q => T q * w q) 175 + v * w idx := by
  rw [sumTo_mul_upd T w idx _ 175 hi]
  have hwi := hw idx hi.1
  by_cases e : w idx = 0
  · rw [e, Int.mul_zero, Int.mul_zero, Int.mul_zero]
    omega
  · have h1 : T idx * w idx ≤ sumTo (fun q => T q * w q) 175 := sumTo_ge (f := fun q => T q * w q) (fun i i0 i1 => Int.mul_nonneg (hT i i0 i1) (hw i i0)) hi.1 hi.2
    have hs : (T idx + v) * w idx = T idx * w idx + v * w idx := Int.add_mul _ _ _
    have h2 : T idx + v ≤ (T idx + v) * w idx := by
      have := Int.mul_le_mul_of_nonneg_left (show (1 : Int) ≤ w idx by omega) (show 0 ≤ T idx + v by have := hT idx hi.1 hi.2; omega)
      rw [Int.mul_one] at this
      exact this
    rw [show min 1000000000 (T idx + v) = T idx + v by omega, hs]
    omega
def rmFr (mem m : mmM) : Prop := ∀ a, a ≠ 89 → a ≠ 90 → m a = mem a