/-! the model reads a clause -/
def lcFr (mem : mmM) (k : Int) (m : mmM) : Prop := (∀ a, a ≠ 65 → a ≠ 67 → a ≠ 68 → a ≠ 69 → a ≠ 70 → a ≠ 71 → a ≠ 72 → a ≠ 73 → m a = mem a) ∧ (∀ j, j ≠ 3 → j ≠ 4 → j ≠ 5 → m 65 j = mem 65 j) ∧ (∀ j, j ≠ mem 65 14 → m 69 j = mem 69 j ∧ m 70 j = mem 70 j) ∧ (∀ i, (i < 340 * mem 65 14 ∨ 340 * mem 65 14 + 340 ≤ i) → m 67 i = mem 67 i ∧ m 68 i = mem 68 i) ∧ ∀ i, i ≠ k → m 71 i = mem 71 i ∧ m 72 i = mem 72 i ∧ m 73 i = mem 73 i
theorem lcFr_refl (mem : mmM) (k : Int) : lcFr mem k mem := ⟨fun _ _ _ _ _ _ _ _ _ => rfl, fun _ _ _ _ => rfl, fun _ _ => ⟨rfl, rfl⟩, fun _ _ => ⟨rfl, rfl⟩, fun _ _ => ⟨rfl, rfl, rfl⟩⟩
theorem lcFr_14 {mem m : mmM} {k : Int} (h : lcFr mem k m) : m 65 14 = mem 65 14 := h.2.1 14 (by decide) (by decide) (by decide)
theorem lcFr_trans {a b c : mmM} {k : Int} (h : lcFr a k b) (h' : lcFr b k c) : lcFr a k c := by
  have e := lcFr_14 h
  obtain ⟨h1, h2, h3, h4, h5⟩ := h'
  rw [e] at h3 h4
  exact ⟨fun x x1 x2 x3 x4 x5 x6 x7 x8 => (h1 x x1 x2 x3 x4 x5 x6 x7 x8).trans (h.1 x x1 x2 x3 x4 x5 x6 x7 x8), fun j j1 j2 j3 => (h2 j j1 j2 j3).trans (h.2.1 j j1 j2 j3), fun j hj => ⟨(h3 j hj).1.trans (h.2.2.1 j hj).1, (h3 j hj).2.trans (h.2.2.1 j hj).2⟩, fun i hi => ⟨(h4 i hi).1.trans (h.2.2.2.1 i hi).1, (h4 i hi).2.trans (h.2.2.2.1 i hi).2⟩, fun i hi => ⟨(h5 i hi).1.trans (h.2.2.2.2 i hi).1, (h5 i hi).2.1.trans (h.2.2.2.2 i hi).2.1, (h5 i hi).2.2.trans (h.2.2.2.2 i hi).2.2⟩⟩
theorem lcFr_lm {mem m : mmM} (k : Int) (h : lmFr mem m) : lcFr mem k m := ⟨fun a a1 a2 a3 a4 _ _ _ _ => h.1 a a1 a2 a3 a4, h.2.1, fun j hj => ⟨h.2.2.1 j hj, by rw [h.1 70 (by decide) (by decide) (by decide) (by decide)]⟩, h.2.2.2, fun i _ => ⟨by rw [h.1 71 (by decide) (by decide) (by decide) (by decide)], by rw [h.1 72 (by decide) (by decide) (by decide) (by decide)], by rw [h.1 73 (by decide) (by decide) (by decide) (by decide)]⟩⟩
theorem lcFr_k (mem : mmM) {a : Nat} (k v : Int) (h : a = 71 ∨ a = 72 ∨ a = 73) : lcFr mem k (mset mem a k v) := by
  have n : ∀ b, b ≠ a → mset mem a k v b = mem b := fun b hb => mset_ne hb
  have z : ∀ b i, i ≠ k → mset mem a k v b i = mem b i := fun b i hi => by
    simp only [mset]
    rw [if_neg (fun y => hi y.2)]
  exact ⟨fun b _ _ _ _ _ b1 b2 b3 => n b (by omega), fun j _ _ _ => by rw [n 65 (by omega)], fun j _ => ⟨by rw [n 69 (by omega)], by rw [n 70 (by omega)]⟩, fun i _ => ⟨by rw [n 67 (by omega)], by rw [n 68 (by omega)]⟩, fun i hi => ⟨z 71 i hi, z 72 i hi, z 73 i hi⟩⟩
theorem lcFr_70 (mem : mmM) (k v : Int) : lcFr mem k (mset mem 70 (mem 65 14) v) := ⟨fun b _ _ _ _ b1 _ _ _ => mset_ne b1, fun j _ _ _ => by rw [mset_ne (by decide)], fun j hj => ⟨by rw [mset_ne (by decide)], by rw [mset_at, if_neg hj]⟩, fun i _ => ⟨by rw [mset_ne (by decide)], by rw [mset_ne (by decide)]⟩, fun i _ => ⟨by rw [mset_ne (by decide)], by rw [mset_ne (by decide)], by rw [mset_ne (by decide)]⟩⟩
/-- a clause read by the model -/
def resL (mem : mmM) : Int ⊕ (Int × List tokT × List tokT) → mmM → Prop
  | .inl f, m => m 65 4 = f ∧ 0 ≤ f ∧ lcFr mem (90 * mem 65 14 + mem 70 (mem 65 14)) m ∧ (0 ≤ m 65 3 ∧ m 65 3 ≤ 300)
  | .inr (q, ts, us), m => m 65 4 = -1 ∧ lcFr mem (90 * mem 65 14 + mem 70 (mem 65 14)) m ∧ m 65 3 = q ∧ m 65 5 = mem 65 5 ∧ codM m = codM mem + ts.length + us.length ∧ (m 71 (90 * mem 65 14 + mem 70 (mem 65 14)) = codM mem ∧ m 72 (90 * mem 65 14 + mem 70 (mem 65 14)) = codM mem + ts.length ∧ m 73 (90 * mem 65 14 + mem 70 (mem 65 14)) = codM mem + ts.length + us.length) ∧ m 70 (mem 65 14) = mem 70 (mem 65 14) + 1 ∧ tokR (m 67) (m 68) (340 * mem 65 14 + codM mem) ts ∧ tokR (m 67) (m 68) (340 * mem 65 14 + codM mem + ts.length) us ∧ ∀ i, i < 340 * mem 65 14 + codM mem → m 67 i = mem 67 i ∧ m 68 i = mem 68 i
