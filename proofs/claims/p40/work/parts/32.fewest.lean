/-! the fewest marks -/
theorem popw_lt {w : Nat} : ∀ {j k : Nat}, j < 2 ^ k → popw w j ≤ k := by
  induction w with
  | zero => intro j k _; exact Nat.zero_le _
  | succ w ih =>
    intro j k h
    unfold popw
    cases k with
    | zero =>
      have e : j = 0 := by
        have : (2 : Nat) ^ 0 = 1 := rfl
        omega
      have := ih (j := j / 2) (k := 0) (by rw [e]; decide)
      omega
    | succ k =>
      rw [Nat.pow_succ] at h
      have := ih (j := j / 2) (k := k) (by omega)
      omega
theorem spr_pos {w c j : Nat} (h : j < 2 ^ popw w c) (h0 : spr w c j = 0) : j = 0 := by
  induction w generalizing c j with
  | zero =>
    have : popw 0 c = 0 := rfl
    rw [this] at h
    have : (2 : Nat) ^ 0 = 1 := rfl
    omega
  | succ w ih =>
    have hp : 2 ^ popw (w + 1) c = 2 ^ (c % 2) * 2 ^ popw w (c / 2) := Nat.pow_add _ _ _
    rw [hp] at h
    unfold spr at h0
    by_cases q : c % 2 = 1
    · rw [if_pos q] at h0
      rw [q, show (2 : Nat) ^ 1 = 2 from rfl] at h
      have := ih (c := c / 2) (j := j / 2) (by omega) (by omega)
      omega
    · rw [if_neg q] at h0
      rw [show c % 2 = 0 by omega, show (2 : Nat) ^ 0 = 1 from rfl, Nat.one_mul] at h
      exact ih h (by omega)
/-- the best choice among the first K -/
def fewK (c : Int) (ok : Int → Prop) (K : Nat) (r : Int) : Prop := (r = -1 ∧ ∀ j, j < K → ¬ ok (spr 24 c.toNat j : Int)) ∨ ∃ j, j < K ∧ r = (spr 24 c.toNat j : Int) ∧ ok (spr 24 c.toNat j : Int) ∧ ∀ i, i < K → ok (spr 24 c.toNat i : Int) → popw 24 j < popw 24 i ∨ (popw 24 j = popw 24 i ∧ j ≤ i)
theorem fewK_unique {c : Int} {ok : Int → Prop} {K : Nat} {r r' : Int} (h : fewK c ok K r) (h' : fewK c ok K r') : r = r' := by
  rcases h with ⟨h1, h2⟩ | ⟨j, h1, h2, h3, h4⟩
  · rcases h' with ⟨g1, g2⟩ | ⟨i, g1, g2, g3, g4⟩
    · omega
    · exact absurd g3 (h2 i g1)
  · rcases h' with ⟨g1, g2⟩ | ⟨i, g1, g2, g3, g4⟩
    · exact absurd h3 (g2 j h1)
    · have a := h4 i g1 g3
      have b := g4 j h1 h3
      have : i = j := by omega
      rw [h2, g2, this]
theorem fewK_congr {c : Int} {ok ok' : Int → Prop} {K : Nat} {r : Int} (h : fewK c ok K r) (e : ∀ s, ok s ↔ ok' s) : fewK c ok' K r := by
  rcases h with ⟨h1, h2⟩ | ⟨j, h1, h2, h3, h4⟩
  · exact Or.inl ⟨h1, fun j hj z => h2 j hj ((e _).mpr z)⟩
  · exact Or.inr ⟨j, h1, h2, (e _).mp h3, fun i hi z => h4 i hi ((e _).mpr z)⟩
theorem fewK_no {c : Int} {ok : Int → Prop} {K : Nat} {r : Int} (h : fewK c ok K r) (hk : ¬ ok (spr 24 c.toNat K : Int)) : fewK c ok (K + 1) r := by
  rcases h with ⟨h1, h2⟩ | ⟨j, h1, h2, h3, h4⟩
  · refine Or.inl ⟨h1, fun j hj => ?_⟩
    rcases Nat.lt_or_ge j K with q | q
    · exact h2 j q
    · rw [show j = K by omega]
      exact hk
  · refine Or.inr ⟨j, by omega, h2, h3, fun i hi hok => ?_⟩
    rcases Nat.lt_or_ge i K with q | q
    · exact h4 i q hok
    · rw [show i = K by omega] at hok
      exact absurd hok hk
theorem fewK_same {c : Int} {ok : Int → Prop} {K j : Nat} (hj : j < K) (hok : ok (spr 24 c.toNat j : Int)) (hb : ∀ i, i < K → ok (spr 24 c.toNat i : Int) → popw 24 j < popw 24 i ∨ (popw 24 j = popw 24 i ∧ j ≤ i)) (hp : popw 24 j ≤ popw 24 K) : fewK c ok (K + 1) (spr 24 c.toNat j : Int) := by
  refine Or.inr ⟨j, by omega, rfl, hok, fun i hi h => ?_⟩
  rcases Nat.lt_or_ge i K with q | q
  · exact hb i q h
  · rw [show i = K by omega]
    omega
theorem fewK_new {c : Int} {ok : Int → Prop} {K : Nat} (hok : ok (spr 24 c.toNat K : Int)) (h : (∀ j, j < K → ¬ ok (spr 24 c.toNat j : Int)) ∨ ∃ j, j < K ∧ (∀ i, i < K → ok (spr 24 c.toNat i : Int) → popw 24 j < popw 24 i ∨ (popw 24 j = popw 24 i ∧ j ≤ i)) ∧ popw 24 K < popw 24 j) : fewK c ok (K + 1) (spr 24 c.toNat K : Int) := by
  refine Or.inr ⟨K, by omega, rfl, hok, fun i hi hi2 => ?_⟩
  rcases Nat.lt_or_ge i K with q | q
  · rcases h with h | ⟨j, j0, j1, j2⟩
    · exact absurd hi2 (h i q)
    · have := j1 i q hi2
      omega
  · have : i = K := by omega
    rw [this]
    exact Or.inr ⟨rfl, Nat.le_refl _⟩
theorem p2_nat (k : Nat) : p2 (k : Int) = ((2 ^ k : Nat) : Int) := rfl
theorem imin_eq {a : Int} (h : a ≤ 10) : min a 10 = a := by omega