/-! the model's tape -/
def hereM (m : mmM) : Int := if m 65 3 < m 65 2 then m 66 (m 65 3) else -1
def bytM (m : mmM) : Prop := (0 ≤ m 65 2 ∧ m 65 2 ≤ 160) ∧ ∀ i, 0 ≤ i → i < 160 → 0 ≤ m 66 i ∧ m 66 i ≤ 255
def CM (m : mmM) : Int → Int := chT (m 66) (m 65 2)
def SM (m : mmM) : Int → Int := skT (m 66) (m 65 2)
def cuM (m : mmM) (j : Int) : mmM := mset m 65 3 j
def lookM (m : mmM) : mmM := cuM m (SM m (m 65 3))
def badM (m : mmM) : mmM := mset m 65 4 (if m 65 4 = -1 then m 65 3 else m 65 4)
def lastM (m : mmM) : mmM := if m 65 4 = -1 then badM (cuM m (m 65 3 - 1)) else m
theorem hereM_rng (m : mmM) (hb : bytM m) (h0 : 0 ≤ m 65 3) : R32 (hereM m) := by
  unfold hereM
  split
  · rename_i q
    have := hb.2 (m 65 3) h0 (by have := hb.1; omega)
    exact ⟨by omega, by omega⟩
  · exact ⟨by decide, by decide⟩
theorem cuM_at (m : mmM) (j : Int) : cuM m j 65 3 = j := mset_same _ _ _ _
theorem cuM_cu (m : mmM) (j k : Int) : cuM (cuM m j) k = cuM m k := mset_mset _ _ _ _ _
theorem cuM_mset (m : mmM) (j k : Int) : mset (cuM m j) 65 3 k = cuM m k := mset_mset _ _ _ _ _
theorem cuM_65 (m : mmM) (j : Int) {k : Int} (h : k ≠ 3) : cuM m j 65 k = m 65 k := by
  show mset m 65 3 j 65 k = _
  rw [mset_at, if_neg h]
theorem cuM_ne (m : mmM) (j : Int) {a : Nat} (h : a ≠ 65) : cuM m j a = m a := mset_ne h
theorem CM_cu (m : mmM) (j : Int) : CM (cuM m j) = CM m := by
  unfold CM
  rw [cuM_65 m j (by decide), cuM_ne m j (by decide)]
theorem SM_cu (m : mmM) (j : Int) : SM (cuM m j) = SM m := by
  unfold SM
  rw [cuM_65 m j (by decide), cuM_ne m j (by decide)]
theorem bytM_cu {m : mmM} (hb : bytM m) (j : Int) : bytM (cuM m j) := by
  unfold bytM
  rw [cuM_65 m j (by decide), cuM_ne m j (by decide)]
  exact hb
theorem lookM_cu (m : mmM) (j : Int) : lookM (cuM m j) = cuM m (SM m j) := by
  unfold lookM
  rw [SM_cu, cuM_at, cuM_cu]
theorem CM_rng {m : mmM} (hb : bytM m) (i : Int) : 0 ≤ CM m i ∧ CM m i ≤ 255 := chT_rng hb.2 hb.1.2 i
theorem hereM_cu (m : mmM) {j : Int} (h0 : 0 ≤ j) : (j < m 65 2 ∧ hereM (cuM m j) = CM m j) ∨ (m 65 2 ≤ j ∧ hereM (cuM m j) = -1 ∧ CM m j = 0) := by
  unfold hereM CM chT
  rw [cuM_at, cuM_65 m j (by decide), cuM_ne m j (by decide)]
  by_cases q : j < m 65 2
  · rw [if_pos q, if_pos ⟨h0, q⟩]
    exact Or.inl ⟨q, rfl⟩
  · rw [if_neg q, if_neg (fun z => q z.2)]
    exact Or.inr ⟨by omega, rfl, rfl⟩
theorem SM_ge (m : mmM) (i : Int) : i ≤ SM m i := skT_ge _ _ _
theorem SM_le {m : mmM} {i : Int} (h : i ≤ m 65 2) : SM m i ≤ m 65 2 := skT_le h
theorem SM_sm (m : mmM) (i : Int) : SM m (SM m i) = SM m i := skT_sk _ _ _
theorem lookM_rng (m : mmM) (hb : bytM m) (h0 : 0 ≤ m 65 3) : R32 (hereM (lookM m)) := by
  refine hereM_rng _ (bytM_cu hb _) ?_
  unfold lookM
  rw [cuM_at]
  have := SM_ge m (m 65 3)
  omega
/-- the model's state once something was wrong: the place of it, and where it stands -/
def wM (m : mmM) (j f : Int) : mmM := mset (cuM m j) 65 4 f
theorem badM_cu (m : mmM) (j : Int) (h : m 65 4 = -1) : badM (cuM m j) = wM m j j := by
  unfold badM wM
  rw [cuM_65 m j (by decide), if_pos h, cuM_at]
def numM (m : mmM) (r : Int × Int) (v : Int) (m' : mmM) : Prop := (¬ r.1 = -1 ∧ v = r.1 ∧ m' = cuM m r.2) ∨ (r.1 = -1 ∧ (0 ≤ v ∧ v ≤ 99) ∧ ∃ a, (0 ≤ a ∧ a ≤ m 65 2) ∧ m' = wM m a r.2)
theorem digC_lt {m : mmM} {j : Int} (h : digC (CM m j)) : j < m 65 2 := chT_in (T := m 66) (show 0 < CM m j by omega)
theorem hereM_dig (m : mmM) {j : Int} (h0 : 0 ≤ j) : (48 ≤ hereM (cuM m j) ∧ hereM (cuM m j) ≤ 57) ↔ digC (CM m j) := by
  rcases hereM_cu m h0 with q | q
  · rw [q.2]
  · rw [q.2.1, q.2.2]
    constructor <;> (intro z; omega)
theorem hereM_val {m : mmM} {j : Int} (h0 : 0 ≤ j) (h : 0 < CM m j) : hereM (cuM m j) = CM m j := by
  rcases hereM_cu m h0 with q | q
  · exact q.2
  · omega