/-! the highest bit of a set of speeches -/
theorem p2_of {a b : Int} (a0 : 0 ≤ a) (b0 : 0 ≤ b) (h : p2 a < p2 b) : a < b := by
  by_cases q : a < b
  · exact q
  · have := p2_mono (i := b) (j := a) (by omega)
    omega
theorem nlz_fin {x lo t y : Int} (h : p2 lo ≤ x ∧ x < p2 (lo + 1)) (l0 : 0 ≤ lo) (t0 : 0 ≤ t) (hy : (y = 0 ∧ p2 t ≤ x ∧ x < p2 (t + 1)) ∨ (y = 1 ∧ p2 (t + 1) ≤ x ∧ x < p2 (t + 2))) : lo = t + y := by
  rcases hy with ⟨rfl, h1, h2⟩ | ⟨rfl, h1, h2⟩
  · have a := p2_of l0 (b := t + 1) (by omega) (by omega)
    have b := p2_of t0 (b := lo + 1) (by omega) (by omega)
    omega
  · have a := p2_of l0 (b := t + 2) (by omega) (by omega)
    have b := p2_of (a := t + 1) (b := lo + 1) (by omega) (by omega) (by omega)
    omega
theorem ushr_lit {x k p : Int} (h0 : 0 ≤ x) (h1 : x < 2147483648) (k0 : 0 ≤ k) (k1 : k < 32) (hp : p2 k = p) : ushr32 x k = x / p := by
  rw [ushr32_eq h0 h1 k0 k1, hp]