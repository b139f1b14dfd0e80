/-! the model reads a book -/
theorem CM_as (mem : mmM) : ∃ mX : mmM, CX mX = CM mem ∧ SX mX = SM mem ∧ mX 1 1 = mem 65 2 ∧ (bytM mem → bytX mX) := by
  refine ⟨mset (mrow mem 2 (mem 66)) 1 1 (mem 65 2), ?_, ?_, mset_same _ _ _ _, fun h => ?_⟩
  · show chT _ _ = chT _ _
    rw [mset_same, mset_ne (by decide), mrow_same]
  · show skT _ _ = skT _ _
    rw [mset_same, mset_ne (by decide), mrow_same]
  · unfold bytX
    rw [mset_same, mset_ne (by decide), mrow_same]
    exact h
theorem spM_bnd {mem : mmM} (hb : bytM mem) {j t a w l : Int} (h0 : 0 ≤ j) (h1 : j ≤ mem 65 2) (h : spS (CM mem) (SM mem) j = .inr (t, a, w, l)) : (j < t ∧ t ≤ mem 65 2) ∧ (0 ≤ a ∧ a < 8) ∧ (0 ≤ w ∧ w < 26) ∧ (1 ≤ l ∧ l ≤ 99) := by
  obtain ⟨mX, e1, e2, e3, e4⟩ := CM_as mem
  rw [← e1, ← e2] at h
  rw [← e3] at h1 ⊢
  exact spS_bnd (e4 hb) h0 h1 h
theorem cutM_bnd {mem : mmM} {cnt lo left j t a b : Int} (h1 : j ≤ mem 65 2) (h : cutS (CM mem) (SM mem) cnt lo left j = .inr (t, a, b)) : (j < t ∧ t ≤ mem 65 2) ∧ (lo < a ∧ a ≤ b ∧ b < cnt) ∧ 2 ≤ left - (b - a + 1) := by
  obtain ⟨mX, e1, e2, e3, -⟩ := CM_as mem
  rw [← e1, ← e2] at h
  rw [← e3] at h1 ⊢
  exact cutS_bnd h1 h
theorem mFr_2 {mem m : mmM} (h : mFr mem m) : m 65 2 = mem 65 2 := h.2 2 (by decide) (by decide) (by decide) (by decide)
theorem mFr_66 {mem m : mmM} (h : mFr mem m) : m 66 = mem 66 := h.1 66 (by decide) (by decide) (by decide) (by decide)
theorem mFr_C {mem m : mmM} (h : mFr mem m) : CM m = CM mem := by
  unfold CM
  rw [mFr_2 h, mFr_66 h]
theorem mFr_S {mem m : mmM} (h : mFr mem m) : SM m = SM mem := by
  unfold SM
  rw [mFr_2 h, mFr_66 h]
theorem mFr_B {mem m : mmM} (h : mFr mem m) (hb : bytM mem) : bytM m := by
  unfold bytM
  rw [mFr_2 h, mFr_66 h]
  exact hb
theorem cuM_id (m : mmM) : cuM m (m 65 3) = m := mset_id m 65 3
def posM (m : mmM) : Prop := ∀ i, 0 ≤ i → i < m 65 2 → 1 ≤ m 66 i
theorem mFr_P {mem m : mmM} (h : mFr mem m) (hp : posM mem) : posM m := by
  unfold posM
  rw [mFr_2 h, mFr_66 h]
  exact hp
theorem hereM_end {m : mmM} (hp : posM m) {j : Int} (h0 : 0 ≤ j) : hereM (cuM m j) = -1 ↔ CM m j = 0 := by
  rcases hereM_cu m h0 with q | q
  · rw [q.2]
    have : CM m j = m 66 j := if_pos ⟨h0, q.1⟩
    have := hp j h0 q.1
    constructor <;> (intro z; omega)
  · rw [q.2.1, q.2.2]
    constructor <;> (intro _; rfl)
def bookM (mem : mmM) : Int ⊕ (Int × (Int → Int) × (Int → Int) × (Int → Int) × (Int → Int)) → Int → mmM → Prop
  | .inl f, v, m => v = f ∧ 0 ≤ f ∧ mFr mem m
  | .inr (c, A, W, L, K), v, m => v = -1 ∧ mFr mem m ∧ m 65 20 = c ∧ (∀ k, 0 ≤ k → k < c → m 76 k = A k ∧ m 77 k = W k ∧ m 78 k = L k) ∧ (0 ≤ m 65 21 ∧ m 65 21 < 16777216) ∧ ∀ i, 0 ≤ i → i < 24 → (K i = 0 ↔ tb (m 65 21) i = false)
def rowsA (m : mmM) (c : Int) (A W L : Int → Int) : Prop := ∀ k, 0 ≤ k → k < c → m 76 k = A k ∧ m 77 k = W k ∧ m 78 k = L k
theorem rowsA_upd {m m' : mmM} {i a w l : Int} {A W L : Int → Int} (h : rowsA m i A W L) (h6 : m' 76 = updF (m 76) i a) (h7 : m' 77 = updF (m 77) i w) (h8 : m' 78 = updF (m 78) i l) : rowsA m' (i + 1) (updF A i a) (updF W i w) (updF L i l) := by
  intro k k0 k1
  rw [h6, h7, h8]
  unfold updF
  by_cases q : k = i
  · rw [if_pos q, if_pos q, if_pos q, if_pos q, if_pos q, if_pos q]
    exact ⟨rfl, rfl, rfl⟩
  · rw [if_neg q, if_neg q, if_neg q, if_neg q, if_neg q, if_neg q]
    exact h k k0 (by omega)
theorem rowsA_of {m m' : mmM} {i : Int} {A W L : Int → Int} (h : rowsA m i A W L) (h6 : m' 76 = m 76) (h7 : m' 77 = m 77) (h8 : m' 78 = m 78) : rowsA m' i A W L := by
  unfold rowsA
  rw [h6, h7, h8]
  exact h
abbrev bookR := Int ⊕ (Int × (Int → Int) × (Int → Int) × (Int → Int) × (Int → Int))