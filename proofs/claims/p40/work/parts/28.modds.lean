/-! odds of M -/
/-- what FORGETS of the model reads -/
def keyEq (mem m : mmM) : Prop := (m 65 27 = mem 65 27 ∧ m 65 28 = mem 65 28 ∧ m 65 31 = mem 65 31) ∧ (m 67 = mem 67 ∧ m 68 = mem 68) ∧ (m 70 = mem 70 ∧ m 71 = mem 71 ∧ m 72 = mem 72 ∧ m 73 = mem 73) ∧ m 79 = mem 79 ∧ m 80 = mem 80 ∧ m 81 = mem 81
theorem keyEq.play {mem m : mmM} (h : keyEq mem m) (hp : playM mem) : playM m := playM_congr hp h.1.1 h.2.2.2.1 h.2.2.2.2.1 h.2.2.2.2.2
theorem forgF_key {mem m : mmM} (h : keyEq mem m) (cl : lawT) : forgF m cl = forgF mem cl := by
  obtain ⟨⟨k1, k2, k3⟩, -, -, k4, k5, k6⟩ := h
  funext s
  unfold forgF letM
  rw [k1, k2, k3, k4, k5, k6]
theorem lawR_key {mem m : mmM} (h : keyEq mem m) (n : Int) : ∀ (cl : lawT) (c : Int), lawR mem n c cl → lawR m n c cl := by
  obtain ⟨-, ⟨a1, a2⟩, ⟨b1, b2, b3, b4⟩, -⟩ := h
  intro cl
  induction cl with
  | nil =>
    intro c hc
    unfold lawR at hc ⊢
    rw [b1]
    exact hc
  | cons q r ih =>
    intro c hc
    unfold lawR at hc ⊢
    rw [b1, b2, b3, b4, a1, a2]
    exact ⟨hc.1, hc.2.1, hc.2.2.1, hc.2.2.2.1, hc.2.2.2.2.1, ih _ hc.2.2.2.2.2⟩
theorem keyEq_fr {mem m : mmM} (h : nightFr mem m) : keyEq mem m := by
  have k : ∀ a, a ≠ 65 → a ≠ 74 → a ≠ 75 → a ≠ 86 → a ≠ 88 → m a = mem a := h.1
  refine ⟨⟨h.2 27 (by omega), h.2 28 (by omega), h.2 31 (by omega)⟩, ⟨?_, ?_⟩, ⟨?_, ?_, ?_, ?_⟩, ?_, ?_, ?_⟩ <;> exact k _ (by decide) (by decide) (by decide) (by decide) (by decide)
theorem keyEq.trans {m0 m1 m2 : mmM} (h : keyEq m0 m1) (h' : keyEq m1 m2) : keyEq m0 m2 := by
  obtain ⟨⟨a1, a2, a3⟩, ⟨a4, a5⟩, ⟨a6, a7, a8, a9⟩, a10, a11, a12⟩ := h
  obtain ⟨⟨b1, b2, b3⟩, ⟨b4, b5⟩, ⟨b6, b7, b8, b9⟩, b10, b11, b12⟩ := h'
  exact ⟨⟨b1.trans a1, b2.trans a2, b3.trans a3⟩, ⟨b4.trans a4, b5.trans a5⟩, ⟨b6.trans a6, b7.trans a7, b8.trans a8, b9.trans a9⟩, b10.trans a10, b11.trans a11, b12.trans a12⟩
/-- the rows that CHANCE of the model uses -/
def chFr (mem m : mmM) : Prop := ∀ a, a ≠ 74 → a ≠ 75 → (a < 91 ∨ 96 < a) → m a = mem a
theorem chFr.trans {m0 m1 m2 : mmM} (h : chFr m0 m1) (h' : chFr m1 m2) : chFr m0 m2 := fun a a1 a2 a3 => (h' a a1 a2 a3).trans (h a a1 a2 a3)
theorem chFr.set {mem m : mmM} (h : chFr mem m) (a : Nat) (k v : Int) (ha : 91 ≤ a ∧ a ≤ 96) : chFr mem (mset m a k v) := fun b b1 b2 b3 => by rw [mset_ne (by omega)]; exact h b b1 b2 b3
theorem chFr.key {mem m : mmM} (h : chFr mem m) : keyEq mem m := by
  have k : ∀ a, a ≠ 74 → a ≠ 75 → (a < 91 ∨ 96 < a) → m a = mem a := h
  have e65 : m 65 = mem 65 := k 65 (by decide) (by decide) (by omega)
  refine ⟨⟨by rw [e65], by rw [e65], by rw [e65]⟩, ⟨?_, ?_⟩, ⟨?_, ?_, ?_, ?_⟩, ?_, ?_, ?_⟩ <;> exact k _ (by decide) (by decide) (by omega)
theorem chFr.leap {mem m : mmM} (h : chFr mem m) : leapM m = leapM mem := leapM_congr (by rw [h 65 (by decide) (by decide) (by omega)]) (h 79 (by decide) (by decide) (by omega)) (h 80 (by decide) (by decide) (by omega)) (h 83 (by decide) (by decide) (by omega))
def tkN (mem : mmM) (mk j : Int) : Int := if bitN mk j = 1 then mem 84 (mem 79 j) else 0
def odRM (n : Int) (σ : odT) (m : mmM) : Prop := (∀ j, 0 ≤ j → j ≤ n → m 92 j = σ.1 j) ∧ (∀ j, 0 ≤ j → j < n → m 93 j = σ.2.1 j) ∧ (∀ j, 0 ≤ j → j < n → m 94 j = σ.2.2 j)
def sayV (m : mmM) (s v : Int) : mmM := mset (mset m 92 (s + 1) (m 92 (s + 1) + v)) 94 s (m 94 s + v)
theorem odRM_say {n : Int} {σ : odT} {m : mmM} (h : odRM n σ m) {s : Int} (v : Int) (hs : 0 ≤ s ∧ s < n) : odRM n (odSay σ s v) (sayV m s v) := by
  obtain ⟨h1, h2, h3⟩ := h
  unfold sayV
  refine ⟨fun j j0 j1 => ?_, fun j j0 j1 => ?_, fun j j0 j1 => ?_⟩
  · rw [mset_ne (by decide), mset_at, h1 j j0 j1, h1 (s + 1) (by omega) (by omega)]
    rfl
  · rw [mset_ne (by decide), mset_ne (by decide)]
    exact h2 j j0 j1
  · rw [mset_at, mset_ne (by decide), h3 j j0 j1, h3 s hs.1 hs.2]
    rfl
theorem odRM_stop {n : Int} {σ : odT} {m : mmM} (h : odRM n σ m) {s : Int} (v : Int) (hs : 0 ≤ s ∧ s < n) : odRM n (odStop σ s v) (mset m 93 s (m 93 s + v)) := by
  obtain ⟨h1, h2, h3⟩ := h
  refine ⟨fun j j0 j1 => ?_, fun j j0 j1 => ?_, fun j j0 j1 => ?_⟩
  · rw [mset_ne (by decide)]
    exact h1 j j0 j1
  · rw [mset_at, h2 j j0 j1, h2 s hs.1 hs.2]
    rfl
  · rw [mset_ne (by decide)]
    exact h3 j j0 j1
theorem goneP_t0 (p f : Int) : goneP p f 0 = lostP p f - 0 := by
  unfold goneP
  rw [Int.mul_zero, Int.zero_tdiv]
def goFr (mem m : mmM) : Prop := ∀ a, (a < 92 ∨ 94 < a) → m a = mem a
theorem goFr.trans {m0 m1 m2 : mmM} (h : goFr m0 m1) (h' : goFr m1 m2) : goFr m0 m2 := fun a ha => (h' a ha).trans (h a ha)
theorem sayV_fr (m : mmM) (s v : Int) : goFr m (sayV m s v) := fun a ha => by
  unfold sayV
  rw [mset_ne (by omega), mset_ne (by omega)]
theorem sayV2 (m : mmM) (s v t w : Int) : sayV (sayV m s v) t w = mset (mset (sayV m s v) 92 (t + 1) (mset m 92 (s + 1) (m 92 (s + 1) + v) 92 (t + 1) + w)) 94 t (sayV m s v 94 t + w) := by
  have e : sayV m s v 92 = mset m 92 (s + 1) (m 92 (s + 1) + v) 92 := mset_ne (by decide)
  rw [← e]
  rfl
theorem sayV_R64 {n c v : Int} {σ : odT} {m : mmM} (hn : 0 ≤ n) (hr : odRM n σ m) (hI : odI n c v σ) (hc : c ≤ 2000000000) (hv : v ≤ 2000000000000) {s x : Int} (hs : 0 ≤ s ∧ s < n) (hx : 0 ≤ x ∧ x ≤ 1000000000) : R64 (m 92 (s + 1) + x) ∧ R64 (m 94 s + x) ∧ R64 (m 93 s + x) := by
  have b := odI_bnd hI hn
  have z1 := b.1 (s + 1) (by omega) (by omega)
  have z2 := hI.2.2.1 s hs.1 hs.2
  have z3 := b.2.1 s hs.1 hs.2
  rw [hr.1 (s + 1) (by omega) (by omega), hr.2.1 s hs.1 hs.2, hr.2.2 s hs.1 hs.2]
  omega
def chP (mem : mmM) (u : odU) (v : Int) (m : mmM) : Prop := v = u.2.1 ∧ chFr mem m ∧ ∀ j, 0 ≤ j → j < mem 65 27 → m 93 j = u.2.2.1 j ∧ m 94 j = u.2.2.2 j
theorem fgS_bnd {ac F : Int → Int} (hF : ∀ s, 0 ≤ F s ∧ F s ≤ 100) (a j : Int) : 0 ≤ fgS ac F a j ∧ fgS ac F a j ≤ 100 := by
  unfold fgS
  have := hF j
  split <;> omega
theorem odP_M {mem : mmM} {F : Int → Int} (hp : playM mem) (ht : ∀ a, 0 ≤ a → a < 8 → 0 ≤ mem 84 a ∧ mem 84 a ≤ 100) (hF : ∀ s, 0 ≤ F s ∧ F s ≤ 100) (mk : Int) : odP (mem 65 27) F (tkN mem mk) (leapM mem) := by
  refine ⟨hp.1, fun i i0 i1 => ⟨hF i, ?_, leapM_bnd ⟨i0, i1⟩⟩⟩
  have hx := hp.2 i i0 (by have := hp.1; omega)
  have := ht (mem 79 i) hx.1.1 hx.1.2
  unfold tkN
  split <;> omega