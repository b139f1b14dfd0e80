/-! the model reads a speech -/
def mFr (mem m : mmM) : Prop := (∀ a, a ≠ 65 → a ≠ 76 → a ≠ 77 → a ≠ 78 → m a = mem a) ∧ (∀ j, j ≠ 3 → j ≠ 4 → j ≠ 20 → j ≠ 21 → m 65 j = mem 65 j)
theorem mFr_refl (mem : mmM) : mFr mem mem := ⟨fun _ _ _ _ _ => rfl, fun _ _ _ _ _ => rfl⟩
theorem mFr_trans {a b c : mmM} (h : mFr a b) (h' : mFr b c) : mFr a c := ⟨fun x x1 x2 x3 x4 => (h'.1 x x1 x2 x3 x4).trans (h.1 x x1 x2 x3 x4), fun j j1 j2 j3 j4 => (h'.2 j j1 j2 j3 j4).trans (h.2 j j1 j2 j3 j4)⟩
theorem mFr_65 (mem : mmM) {k v : Int} (h : k = 3 ∨ k = 4 ∨ k = 20 ∨ k = 21) : mFr mem (mset mem 65 k v) := ⟨fun _ x1 _ _ _ => mset_ne x1, fun j j1 j2 j3 j4 => by rw [mset_at, if_neg (by omega)]⟩
theorem mFr_row (mem : mmM) {a : Nat} (k v : Int) (h : a = 76 ∨ a = 77 ∨ a = 78) : mFr mem (mset mem a k v) := ⟨fun _ _ _ _ _ => mset_ne (by omega), fun _ _ _ _ _ => by rw [mset_ne (by omega)]⟩
theorem mFr_cu (mem : mmM) (j : Int) : mFr mem (cuM mem j) := mFr_65 mem (Or.inl rfl)
theorem mFr_w (mem : mmM) (j f : Int) : mFr mem (wM mem j f) := mFr_trans (mFr_cu mem j) (mFr_65 _ (Or.inr (Or.inl rfl)))
theorem wM_3 (mem : mmM) (j f : Int) : wM mem j f 65 3 = j := by
  unfold wM
  rw [mset_at, if_neg (by decide), cuM_at]
theorem wM_4 (mem : mmM) (j f : Int) : wM mem j f 65 4 = f := mset_same _ _ _ _
theorem wM_65 (mem : mmM) (j f : Int) {k : Int} (h3 : k ≠ 3) (h4 : k ≠ 4) : wM mem j f 65 k = mem 65 k := by
  unfold wM
  rw [mset_at, if_neg h4, cuM_65 _ _ h3]
theorem wM_ne (mem : mmM) (j f : Int) {a : Nat} (h : a ≠ 65) : wM mem j f a = mem a := by
  unfold wM
  rw [mset_ne h, cuM_ne _ _ h]
theorem lastM_w {mem : mmM} {j f : Int} (h : f ≠ -1) : lastM (wM mem j f) = wM mem j f := by
  unfold lastM
  rw [wM_4, if_neg h]
theorem lastM_cu {mem : mmM} (j : Int) (h : mem 65 4 = -1) : lastM (cuM mem j) = wM mem (j - 1) (j - 1) := by
  unfold lastM
  rw [cuM_65 _ _ (by decide), if_pos h, cuM_at, cuM_cu, badM_cu mem _ h]
/-- the rows of one more speech -/
def spRow (m : mmM) (i a w l : Int) : mmM := mset (mset (mset (mset m 76 i a) 77 i w) 78 i l) 65 20 (i + 1)
theorem spRow_65 (m : mmM) (i a w l : Int) {k : Int} (h : k ≠ 20) : spRow m i a w l 65 k = m 65 k := by
  unfold spRow
  rw [mset_at, if_neg h, mset_ne (by decide), mset_ne (by decide), mset_ne (by decide)]
theorem spRow_20 (m : mmM) (i a w l : Int) : spRow m i a w l 65 20 = i + 1 := mset_same _ _ _ _
theorem spRow_fr (m : mmM) (i a w l : Int) : mFr m (spRow m i a w l) := mFr_trans (mFr_trans (mFr_trans (mFr_row m _ _ (by omega)) (mFr_row _ _ _ (by omega))) (mFr_row _ _ _ (by omega))) (mFr_65 _ (by omega))
theorem spRow_76 (m : mmM) (i a w l : Int) : spRow m i a w l 76 = updF (m 76) i a := by
  unfold spRow
  rw [mset_ne (by decide), mset_ne (by decide), mset_ne (by decide), mset_updF]
theorem spRow_77 (m : mmM) (i a w l : Int) : spRow m i a w l 77 = updF (m 77) i w := by
  unfold spRow
  rw [mset_ne (by decide), mset_ne (by decide), mset_updF, mset_ne (by decide)]
theorem spRow_78 (m : mmM) (i a w l : Int) : spRow m i a w l 78 = updF (m 78) i l := by
  unfold spRow
  rw [mset_ne (by decide), mset_updF, mset_ne (by decide), mset_ne (by decide)]
def spM (mem : mmM) (i : Int) : Int ⊕ (Int × Int × Int × Int) → mmM → Prop
  | .inl f, m => m 65 4 = f ∧ 0 ≤ f ∧ mFr mem m ∧ (0 ≤ m 65 20 ∧ m 65 20 ≤ 24) ∧ (0 ≤ m 65 3 ∧ m 65 3 ≤ mem 65 2)
  | .inr (t, a, w, l), m => m 65 4 = -1 ∧ mFr mem m ∧ m 65 3 = t ∧ m 65 20 = i + 1 ∧ m 65 21 = mem 65 21 ∧ m 76 = updF (mem 76) i a ∧ m 77 = updF (mem 77) i w ∧ m 78 = updF (mem 78) i l
theorem numS_adv {C : Int → Int} {k : Nat} {j : Int} (h : ¬ (numS C (k + 1) j).1 = -1) : j < (numS C (k + 1) j).2 := by
  unfold numS at h ⊢
  by_cases q : digC (C j)
  · rw [if_pos q] at h ⊢
    have e : numF C (k + 1) 0 j = numF C k (0 * 10 + C j - 48) (j + 1) := if_pos q
    rw [e]
    have mono : ∀ (l : Nat) (v i : Int), i ≤ (numF C l v i).2 := by
      intro l
      induction l with
      | zero =>
        intro v i
        unfold numF
        split <;> exact Int.le_refl _
      | succ l ih =>
        intro v i
        unfold numF
        split
        · have := ih (v * 10 + C i - 48) (i + 1)
          omega
        · exact Int.le_refl _
    have := mono k (0 * 10 + C j - 48) (j + 1)
    omega
  · rw [if_neg q] at h
    exact absurd rfl h
theorem here_in (m : mmM) {j lo hi : Int} (h0 : 0 ≤ j) (hl : 0 < lo) : (0 ≤ hereM (cuM m j) - lo ∧ hereM (cuM m j) - lo ≤ hi) ↔ (lo ≤ CM m j ∧ CM m j ≤ lo + hi) := by
  rcases hereM_cu m h0 with q | q
  · rw [q.2]
    constructor <;> (intro z; omega)
  · rw [q.2.1, q.2.2]
    constructor <;> (intro z; omega)