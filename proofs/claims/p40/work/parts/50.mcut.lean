/-! the model reads a cut -/
theorem popc_add {x k : Int} (h0 : 0 ≤ x) (k0 : 0 ≤ k) (k1 : k < 24) (h : x < p2 k) : popc (x + p2 k) = popc x + 1 := by
  have f : tb x k = false := tb_big h0 h (Int.le_refl _)
  have p := p2_pos k
  have a := tb_add h0 (b := 24) (by have := p2_mono (i := k) (j := 24) (by omega); omega) k0 k1 (by decide) f
  have t : tb (x + p2 k) k = true := by
    rw [a.2.2 k k0, f]
    simp
  have s := popc_sub (x := x + p2 k) (by omega) k0 k1 t
  rw [show x + p2 k - p2 k = x by omega] at s
  omega
/-- how the model's bits say which speeches are cut -/
def cutRel (c lo left cnt : Int) (K : Int → Int) : Prop := 0 ≤ c ∧ ((lo = -1 ∧ c = 0) ∨ (0 ≤ lo ∧ p2 lo ≤ c ∧ c < p2 (lo + 1))) ∧ popc c = cnt - left ∧ ∀ i, 0 ≤ i → i < 24 → (K i = 0 ↔ tb c i = false)
theorem cutRel_lt {c lo left cnt : Int} {K : Int → Int} (h : cutRel c lo left cnt K) : c < p2 (lo + 1) := by
  rcases h.2.1 with ⟨h1, h2⟩ | ⟨-, -, h3⟩
  · rw [h2]
    exact p2_pos _
  · exact h3
/-- while the bits from a on are set -/
def cutMid (c a i left cnt : Int) (K : Int → Int) : Prop := (0 ≤ c ∧ c < p2 i) ∧ (a < i → p2 (i - 1) ≤ c) ∧ popc c = cnt - (left - (i - a)) ∧ ∀ j, 0 ≤ j → j < 24 → (setK K a (i - 1) j = 0 ↔ tb c j = false)
theorem cutMid_0 {c lo left cnt a : Int} {K : Int → Int} (h : cutRel c lo left cnt K) (ha : lo < a) : cutMid c a a left cnt K := by
  have lt := cutRel_lt h
  have mo := p2_mono (i := lo + 1) (j := a) (by omega)
  refine ⟨⟨h.1, by omega⟩, fun g => by omega, by rw [h.2.2.1]; omega, fun j j0 j1 => ?_⟩
  rw [setK_none]
  exact h.2.2.2 j j0 j1
theorem cutMid_step {c a i left cnt : Int} {K : Int → Int} (h : cutMid c a i left cnt K) (a0 : 0 ≤ a) (hi : a ≤ i) (i1 : i < 24) : cutMid (or32 c (shl32 1 i)) a (i + 1) left cnt K := by
  obtain ⟨⟨c0, c1⟩, h2, h3, h4⟩ := h
  have f : tb c i = false := tb_big c0 c1 (Int.le_refl _)
  have ad := tb_add c0 (b := 24) (by have := p2_mono (i := i) (j := 24) (by omega); omega) (show 0 ≤ i by omega) i1 (by decide) f
  have su := p2_succ (i := i) (by omega)
  rw [ad.2.1]
  refine ⟨⟨ad.1.1, by omega⟩, fun _ => by rw [show i + 1 - 1 = i by omega]; omega, by rw [popc_add c0 (by omega) i1 c1, h3]; omega, fun j j0 j1 => ?_⟩
  rw [show i + 1 - 1 = i by omega, ← setK_step K hi, ad.2.2 j j0]
  unfold updF
  by_cases q : j = i
  · rw [if_pos q, decide_eq_true q.symm, Bool.or_true]
    constructor <;> (intro z; cases z)
  · rw [if_neg q, decide_eq_false (fun z => q z.symm), Bool.or_false]
    exact h4 j j0 j1
theorem cutMid_end {c a b left cnt : Int} {K : Int → Int} (h : cutMid c a (b + 1) left cnt K) (a0 : 0 ≤ a) (hb : a ≤ b) : cutRel c b (left - (b - a + 1)) cnt (setK K a b) := by
  obtain ⟨⟨c0, c1⟩, h2, h3, h4⟩ := h
  rw [show b + 1 - 1 = b by omega] at h2 h4
  exact ⟨c0, Or.inr ⟨by omega, h2 (by omega), c1⟩, by rw [h3]; omega, h4⟩
def cutM (mem : mmM) (K : Int → Int) (left : Int) : Int ⊕ (Int × Int × Int) → mmM → Prop
  | .inl f, m => m 65 4 = f ∧ 0 ≤ f ∧ mFr mem m ∧ m 65 20 = mem 65 20 ∧ (0 ≤ m 65 3 ∧ m 65 3 ≤ mem 65 2)
  | .inr (t, a, b), m => m 65 4 = -1 ∧ mFr mem m ∧ m 65 20 = mem 65 20 ∧ m 65 3 = t ∧ cutRel (m 65 21) b (left - (b - a + 1)) (mem 65 20) (setK K a b) ∧ m 76 = mem 76 ∧ m 77 = mem 77 ∧ m 78 = mem 78
theorem hereM_is (m : mmM) {j c : Int} (h0 : 0 ≤ j) (hc : 0 < c) : hereM (cuM m j) = c ↔ CM m j = c := by
  rcases hereM_cu m h0 with q | q
  · rw [q.2]
  · rw [q.2.1, q.2.2]
    constructor <;> (intro z; omega)