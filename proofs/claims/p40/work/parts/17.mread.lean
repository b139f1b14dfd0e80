/-! the model's reads off its play -/
def cueF (w : Int → Int) (i : Int) : Int := if i = 0 then -1 else w (i - 1)
abbrev likeM (a c : Int → Int) (i j : Int) : Prop := ¬ i = j ∧ 0 < i ∧ 0 < j ∧ a i = a j ∧ c i = c j
/-- the model's play -/
def playM (mem : mmM) : Prop := (0 ≤ mem 65 27 ∧ mem 65 27 ≤ 24) ∧ ∀ i, 0 ≤ i → i < 24 → (0 ≤ mem 79 i ∧ mem 79 i < 8) ∧ (0 ≤ mem 80 i ∧ mem 80 i < 26) ∧ (0 ≤ mem 81 i ∧ mem 81 i ≤ 99)
theorem cueF_rng {mem : mmM} (h : playM mem) {i : Int} (h0 : 0 ≤ i) (h1 : i < 24) : R32 (cueF (mem 80) i) := by
  unfold cueF
  split
  · omega
  · have := h.2 (i - 1) (by omega) (by omega)
    omega
theorem likeM_iff {mem : mmM} (h : playM mem) {i j : Int} (hi : 0 ≤ i ∧ i < mem 65 27) (hj : 0 ≤ j ∧ j < mem 65 27) : likeM (mem 79) (cueF (mem 80)) i j ↔ likeF (mem 65 27) (mem 79) (cueF (mem 80)) j i := by
  have hn := h.1
  have wi : cueF (mem 80) i = -1 ↔ i = 0 := by
    unfold cueF
    split
    · omega
    · have := h.2 (i - 1) (by omega) (by omega)
      omega
  have wj : cueF (mem 80) j = -1 ↔ j = 0 := by
    unfold cueF
    split
    · omega
    · have := h.2 (j - 1) (by omega) (by omega)
      omega
  constructor
  · intro q
    exact ⟨hj, hi, fun e => q.1 e.symm, q.2.2.2.1.symm, q.2.2.2.2.symm, fun e => by omega⟩
  · intro q
    refine ⟨fun e => q.2.2.1 e.symm, ?_, ?_, q.2.2.2.1.symm, q.2.2.2.2.1.symm⟩ <;> omega
/-- where one leaps, in the model -/
def leapM (mem : mmM) (s : Int) : Int := leapF (mem 83 (mem 79 s)) (mem 65 27) (mem 79) (cueF (mem 80)) s
theorem leapM_bnd {mem : mmM} {s : Int} (h : 0 ≤ s ∧ s < mem 65 27) : -1 ≤ leapM mem s ∧ leapM mem s < mem 65 27 := leapF_bnd h.1 h.2
theorem leapM_rng {mem : mmM} {s : Int} (hp : playM mem) (h : 0 ≤ s ∧ s < mem 65 27) : R32 (leapM mem s) := by
  have := leapM_bnd h
  have := hp.1
  omega
theorem likesM_rng {mem : mmM} {s : Int} (hp : playM mem) (_ : 0 ≤ s ∧ s < mem 65 27) : R32 (likesF (mem 65 27) (mem 79) (cueF (mem 80)) s) := likesF_rng (by have := hp.1; omega) hp.1
theorem foldTo_inv {α : Type} {g : α → Int → α} {z : α} {n : Nat} (P : Int → α → Prop) (h0 : P 0 z) (hs : ∀ (i : Int) a, 0 ≤ i → i < n → P i a → P (i + 1) (g a i)) : P n (foldTo g z n) := by
  induction n with
  | zero => exact h0
  | succ n ih => exact hs n _ (by omega) (by omega) (ih (fun i a h1 h2 => hs i a h1 (by omega)))
theorem loopF_spec (n : Int) (to : Int → Int) (hn : 0 ≤ n) : ((loopF n to).2 = -1 ∧ (loopF n to).1 = -1) ∨ ((0 ≤ (loopF n to).2 ∧ (loopF n to).2 < n) ∧ (loopF n to).1 = (loopF n to).2 - to (loopF n to).2 ∧ 0 < (loopF n to).1 ∧ ¬ to (loopF n to).2 = -1) := by
  have := foldTo_inv (g := fun (p : Int × Int) i => if ¬ to i = -1 ∧ to i < i ∧ (p.2 = -1 ∨ i - to i < p.1) then (i - to i, i) else p) (z := (-1, -1)) (n := n.toNat) (fun i p => (p.2 = -1 ∧ p.1 = -1) ∨ ((0 ≤ p.2 ∧ p.2 < i) ∧ p.1 = p.2 - to p.2 ∧ 0 < p.1 ∧ ¬ to p.2 = -1)) (Or.inl ⟨rfl, rfl⟩) (fun i a g0 g1 ha => by
    show ((if _ then _ else _ : Int × Int).2 = -1 ∧ _) ∨ _
    split
    · exact Or.inr ⟨⟨g0, by show i < i + 1; omega⟩, rfl, by show 0 < i - to i; omega, by rename_i g; exact g.1⟩
    · rcases ha with ha | ha
      · exact Or.inl ha
      · exact Or.inr ⟨⟨ha.1.1, by omega⟩, ha.2⟩)
  rw [show ((n.toNat : Nat) : Int) = n by omega] at this
  exact this
theorem holeF_spec (n : Int) (to : Int → Int) (hn : 0 ≤ n) : ((holeF n to).2 = -1 ∧ (holeF n to).1 = -1) ∨ ((0 ≤ (holeF n to).2 ∧ (holeF n to).2 < n) ∧ (holeF n to).1 = to (holeF n to).2 - (holeF n to).2 ∧ 0 < (holeF n to).1) := by
  have := foldTo_inv (g := fun (p : Int × Int) i => if i < to i ∧ p.1 < to i - i then (to i - i, i) else p) (z := (-1, -1)) (n := n.toNat) (fun i p => (p.2 = -1 ∧ p.1 = -1) ∨ ((0 ≤ p.2 ∧ p.2 < i) ∧ p.1 = to p.2 - p.2 ∧ 0 < p.1)) (Or.inl ⟨rfl, rfl⟩) (fun i a g0 g1 ha => by
    show ((if _ then _ else _ : Int × Int).2 = -1 ∧ _) ∨ _
    split
    · exact Or.inr ⟨⟨g0, by show i < i + 1; omega⟩, rfl, by show 0 < to i - i; omega⟩
    · rcases ha with ha | ha
      · exact Or.inl ha
      · exact Or.inr ⟨⟨ha.1.1, by omega⟩, ha.2⟩)
  rw [show ((n.toNat : Nat) : Int) = n by omega] at this
  exact this
def pairM (back : Int) (mem : mmM) : Int × Int := if back = 0 then holeF (mem 65 27) (leapM mem) else loopF (mem 65 27) (leapM mem)
theorem pairM_2 (back : Int) (mem : mmM) : (if back = 0 then (holeF (mem 65 27) (leapM mem)).2 else (loopF (mem 65 27) (leapM mem)).2) = (pairM back mem).2 := by
  unfold pairM
  split <;> rfl
theorem pairM_spec (back : Int) (mem : mmM) (hn : 0 ≤ mem 65 27) : ((pairM back mem).2 = -1 ∧ (pairM back mem).1 = -1) ∨ ((0 ≤ (pairM back mem).2 ∧ (pairM back mem).2 < mem 65 27) ∧ (pairM back mem).1 = (if 0 ≤ leapM mem (pairM back mem).2 - (pairM back mem).2 then leapM mem (pairM back mem).2 - (pairM back mem).2 else -(leapM mem (pairM back mem).2 - (pairM back mem).2))) := by
  unfold pairM
  split
  · rcases holeF_spec (mem 65 27) (leapM mem) hn with h | h
    · exact Or.inl h
    · exact Or.inr ⟨h.1, by rw [if_pos (by omega)]; omega⟩
  · rcases loopF_spec (mem 65 27) (leapM mem) hn with h | h
    · exact Or.inl h
    · exact Or.inr ⟨h.1, by rw [if_neg (by omega)]; omega⟩
def toldM (back : Int) (mem : mmM) (what : Int) : Int := if mem 65 27 = 0 ∨ ¬ (0 ≤ what ∧ what ≤ 1) then -1 else if what = 0 then (pairM back mem).1 else (pairM back mem).2